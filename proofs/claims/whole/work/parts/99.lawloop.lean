/-! the law: its loop -/
theorem lw_and (x : Int32) : ∃ k : Nat, k < 32 ∧ x &&& nI 31 = nI k := by
  refine ⟨(x &&& nI 31).toBitVec.toNat, ?_, ?_⟩
  · have h : (x &&& nI 31).toBitVec = x.toBitVec &&& 31#32 := rfl
    rw [h, BitVec.toNat_and]
    exact Nat.lt_of_le_of_lt Nat.and_le_right (by decide)
  · apply Int32.toBitVec_inj.mp
    show (x &&& nI 31).toBitVec = BitVec.ofNat 32 _
    simp
/-- what stays in the law, of a throw -/
def lw_Y (l : Launch) (s : State) (sa : Nat) : Prop := l.stackTraces = false ∧ lb_Ns s ∧ vk_R RX4 195 "no such limb" sa s ∧ vx_Zq Bundle.tN "UNASSIGNED_STACK" Bundle.steD (lw_Af s) s s.heap ∧ vx_Zq Bundle.tN "SUPPRESSED_SENTINEL" Bundle.listD (lw_Af s) s s.heap
set_option maxHeartbeats 4000000 in
set_option maxRecDepth 100000 in
theorem lw_sw {p : Program} {l : Launch} {e : Env} {s : State} {m : MethodId} {below : List Frame} {meth : Method} {c : Code} {b L : Nat} {xs : Nat → Int32} {K1 K2 : Cxt} {P : Nat} {a B mo : Nat → Nat} {o i cells slots sa : Nat} {Q : State → Prop} (Y : lw_Y l s sa) (X : lw_X p s m c b L xs K1 K2 o) (hi : i + 5 < L) (hc : cells + 1 ≤ 601024) (hs : slots + 6 ≤ 7293000) {mu ra : Nat → Int} {H : Heap} {locs : List Loc} {ls : Array Slot} (hI : lw_I K1 K2 P a B mo o s mu ra H locs) (hl : lv_has ls 8 (lw_lv b a mo o i)) (hN : lw_N p l e s m below meth c b K1 K2 P a B mo o i cells slots Q) (k : Nat) (hk : k < 32) : W p l e room_1 s m #[Value.ref b] below meth c H locs cells slots Q (F0 m 50 ls [.int (nI k)]) := by
  obtain ⟨htr, hLB, hst, hZ1, hZ2⟩ := Y
  have hx := X.1.1
  have hb := X.1.2.1
  have hcs : k = 0 ∨ k = 1 ∨ k = 2 ∨ k = 3 ∨ k = 4 ∨ k = 5 ∨ k = 6 ∨ k = 7 ∨ k = 8 ∨ k = 9 ∨ k = 10 ∨ k = 11 ∨ k = 12 ∨ k = 13 ∨ k = 14 ∨ k = 15 ∨ k = 16 ∨ k = 17 ∨ k = 18 ∨ 19 ≤ k := by omega
  rcases hcs with rfl | rfl | rfl | rfl | rfl | rfl | rfl | rfl | rfl | rfl | rfl | rfl | rfl | rfl | rfl | rfl | rfl | rfl | rfl | h
  · exact lv_tableIn (off := 90) (tgt := 140) hx hb dL_law_50 (by decide +kernel) (by decide +kernel) (by decide +kernel) (by decide +kernel) (lw_k_set X hi hc hs hI hl hN)
  · exact lv_tableIn (off := 203) (tgt := 253) hx hb dL_law_50 (by decide +kernel) (by decide +kernel) (by decide +kernel) (by decide +kernel) (lw_k_add X hi hc hs hI hl hN)
  · exact lv_tableIn (off := 252) (tgt := 302) hx hb dL_law_50 (by decide +kernel) (by decide +kernel) (by decide +kernel) (by decide +kernel) (lw_k_take X hi hc hs hI hl hN)
  · exact lv_tableIn (off := 301) (tgt := 351) hx hb dL_law_50 (by decide +kernel) (by decide +kernel) (by decide +kernel) (by decide +kernel) (lw_k_times X hi hc hs hI hl hN)
  · exact lv_tableIn (off := 350) (tgt := 400) hx hb dL_law_50 (by decide +kernel) (by decide +kernel) (by decide +kernel) (by decide +kernel) (lw_k_over X hi hc hs hI hl hN)
  · exact lv_tableIn (off := 399) (tgt := 449) hx hb dL_law_50 (by decide +kernel) (by decide +kernel) (by decide +kernel) (by decide +kernel) (lw_k_root X hi hc hs hI hl hN)
  · exact lv_tableIn (off := 436) (tgt := 486) hx hb dL_law_50 (by decide +kernel) (by decide +kernel) (by decide +kernel) (by decide +kernel) (lw_k_exp X hi hc hs hI hl hN)
  · exact lv_tableIn (off := 473) (tgt := 523) hx hb dL_law_50 (by decide +kernel) (by decide +kernel) (by decide +kernel) (by decide +kernel) (lw_k_log X hi hc hs hI hl hN)
  · exact lv_tableIn (off := 510) (tgt := 560) hx hb dL_law_50 (by decide +kernel) (by decide +kernel) (by decide +kernel) (by decide +kernel) (lw_k_arc X hi hc hs hI hl hN)
  · exact lv_tableIn (off := 547) (tgt := 597) hx hb dL_law_50 (by decide +kernel) (by decide +kernel) (by decide +kernel) (by decide +kernel) (lw_k_sine X hi hc hs hI hl hN)
  · exact lv_tableIn (off := 612) (tgt := 662) hx hb dL_law_50 (by decide +kernel) (by decide +kernel) (by decide +kernel) (by decide +kernel) (lw_k_pi X hi hc hs hI hl hN)
  · exact lv_tableIn (off := 637) (tgt := 687) hx hb dL_law_50 (by decide +kernel) (by decide +kernel) (by decide +kernel) (by decide +kernel) (lw_k_widen X hi hc hs hI hl hN)
  · exact lv_tableIn (off := 706) (tgt := 756) hx hb dL_law_50 (by decide +kernel) (by decide +kernel) (by decide +kernel) (by decide +kernel) (lw_k_join X hi hc hs hI hl hN)
  · exact lv_tableIn (off := 755) (tgt := 805) hx hb dL_law_50 (by decide +kernel) (by decide +kernel) (by decide +kernel) (by decide +kernel) (lw_k_lies X hi hc hs hI hl hN)
  · exact lv_tableIn (off := 792) (tgt := 842) hx hb dL_law_50 (by decide +kernel) (by decide +kernel) (by decide +kernel) (by decide +kernel) (lw_k_holds X hi hc hs hI hl hN)
  · exact lv_tableIn (off := 905) (tgt := 955) hx hb dL_law_50 (by decide +kernel) (by decide +kernel) (by decide +kernel) (by decide +kernel) (lw_k_limb htr hLB hst hZ1 hZ2 X hi hc hs hI hl hN)
  · exact lv_tableIn (off := 984) (tgt := 1034) hx hb dL_law_50 (by decide +kernel) (by decide +kernel) (by decide +kernel) (by decide +kernel) (lw_k_digit X hi hc hs hI hl hN)
  · exact lv_tableIn (off := 1021) (tgt := 1071) hx hb dL_law_50 (by decide +kernel) (by decide +kernel) (by decide +kernel) (by decide +kernel) (lw_k_sure X hi hc hs hI hl hN)
  · exact lv_tableIn (off := 1046) (tgt := 1096) hx hb dL_law_50 (by decide +kernel) (by decide +kernel) (by decide +kernel) (by decide +kernel) (lw_k_count X hi hc hs hI hl hN)
  · refine lv_tableOut (tgt := 1121) hx hb dL_law_50 (Or.inr (by rw [nI_toInt (by omega)]; omega)) (by decide) ?_
    exact W.widen (Nat.le_add_right _ _) (Nat.le_add_right _ _) (hN _ _ _ _ _ hI hl)
theorem lw_neg {L i : Nat} (h : L < 6) (hi : i < 2 ^ 31) : nI L - nI 6 < nI i := by
  have h2 : (nI L - nI 6).toInt < 0 := by
    have hcs : L = 0 ∨ L = 1 ∨ L = 2 ∨ L = 3 ∨ L = 4 ∨ L = 5 := by omega
    rcases hcs with rfl | rfl | rfl | rfl | rfl | rfl <;> decide
  rw [Int32.lt_iff_toInt_lt, nI_toInt hi]
  omega
theorem nI_sub6 {L : Nat} (h : 6 ≤ L) : nI L - nI 6 = nI (L - 6) := by
  have e : nI L = nI (L - 6) + nI 6 := by
    rw [nI_add, Nat.sub_add_cancel h]
  rw [e]
  exact Int32.add_sub_cancel _ _
theorem lw_I_S {K1 K2 : Cxt} {P : Nat} {a B mo : Nat → Nat} {o : Nat} {s : State} {mu ra : Nat → Int} {H : Heap} {locs : List Loc} (h : lw_I K1 K2 P a B mo o s mu ra H locs) : va_S (lw_Af s) s.heap H locs := by
  obtain ⟨E1, z1, sg, E2, z2, th, rg, ov, hbk, hS, hiv, hv, hiv2, hw1, hw2, ho⟩ := h
  exact hw1.2.2
set_option maxHeartbeats 4000000 in
set_option maxRecDepth 100000 in
theorem lw_out {p : Program} {l : Launch} {e : Env} {s : State} {m : MethodId} {below : List Frame} {meth : Method} {c : Code} {b L : Nat} {xs : Nat → Int32} {a mo : Nat → Nat} {o i cells slots : Nat} {H : Heap} {locs : List Loc} {ls : Array Slot} (hx : p.tables.exec = Jvm.exec) (hb : c.code = cL_law) (hX : va_X b L xs s s.heap) (hbl : b < s.heap.size) (hbA : ¬ lw_Af s b) (hr : meth.sig.returnType = ret) (hlk : meth.locks = false) (hL : L ≤ 3073) (hi : L ≤ i + 5) (hi2 : i ≤ 4000) (hc : cells ≤ 601024) (hs : slots ≤ 7293000) (hS : va_S (lw_Af s) s.heap H locs) (hl : lv_has ls 8 (lw_lv b a mo o i)) : W p l e room_1 s m #[Value.ref b] below meth c H locs cells slots (lw_Z below #[Value.ref b] s) (F0 m 33 ls []) := by
  have hend : W p l e room_1 s m #[Value.ref b] below meth c H locs cells slots (lw_Z below #[Value.ref b] s) (F0 m 1127 ls []) := by
    refine lv_iconst (v := 1) hx hb dL_law_1127 (by decide) ?_
    refine va_forget (fun q hq => hS.2.2 q hq) ?_
    exact W.widen hc hs (lw_ret hx hb hr hlk dL_law_1128)
  refine lv_iload hx hb dL_law_33 (lv_at hl 4 rfl) ?_
  refine lv_aload_n hx hb dL_law_35 rfl (lv_at hl 0 rfl) ?_
  refine va_slen hx hb hX hbl hbA hS dL_law_36 ?_
  refine lv_bipush (v := nI 6) hx hb dL_law_37 (by decide) ?_
  by_cases h6 : L < 6
  · refine bd_isub (v := nI L - nI 6) hx hb dL_law_39 rfl ?_
    exact lv_icmp_gt (tgt := 1127) hx hb dL_law_40 (by decide) (fun _ => hend) (fun h => absurd (lw_neg h6 (by omega)) h)
  · refine bd_isub (v := nI (L - 6)) hx hb dL_law_39 (nI_sub6 (by omega)) ?_
    exact bd_igt (tgt := 1127) (by omega) (by omega) hx hb dL_law_40 (by decide) (fun _ => hend) (fun h => absurd h (by omega))
set_option maxHeartbeats 4000000 in
set_option maxRecDepth 100000 in
theorem lw_loop {p : Program} {l : Launch} {e : Env} {s : State} {m : MethodId} {below : List Frame} {meth : Method} {c : Code} {b L : Nat} {xs : Nat → Int32} {K1 K2 : Cxt} {P : Nat} {a B mo : Nat → Nat} {o sa : Nat} (Y : lw_Y l s sa) (X : lw_X p s m c b L xs K1 K2 o) (hr : meth.sig.returnType = ret) (hlk : meth.locks = false) : ∀ (d i cells slots : Nat) (mu ra : Nat → Int) (H : Heap) (locs : List Loc) (ls : Array Slot), L ≤ i + 5 + 6 * d → 1 ≤ i → i ≤ 4000 → cells + d ≤ 601024 → slots + 6 * d ≤ 7293000 → lw_I K1 K2 P a B mo o s mu ra H locs → lv_has ls 8 (lw_lv b a mo o i) → W p l e room_1 s m #[Value.ref b] below meth c H locs cells slots (lw_Z below #[Value.ref b] s) (F0 m 33 ls []) := by
  have hx := X.1.1
  have hb := X.1.2.1
  have hX := X.2.2.1
  have hbl := X.2.2.2.1
  have hL := X.2.2.2.2.1
  have hbA : ¬ lw_Af s b := Nat.not_le.mpr hbl
  intro d
  induction d with
  | zero =>
    intro i cells slots mu ra H locs ls hd h1 hi2 hc hs hI hl
    exact lw_out hx hb hX hbl hbA hr hlk hL (by omega) hi2 (by omega) (by omega) (lw_I_S hI) hl
  | succ d ih =>
    intro i cells slots mu ra H locs ls hd h1 hi2 hc hs hI hl
    by_cases hgo : i + 5 < L
    · have hS := lw_I_S hI
      refine lv_iload hx hb dL_law_33 (lv_at hl 4 rfl) ?_
      refine lv_aload_n hx hb dL_law_35 rfl (lv_at hl 0 rfl) ?_
      refine va_slen hx hb hX hbl hbA hS dL_law_36 ?_
      refine lv_bipush (v := nI 6) hx hb dL_law_37 (by decide) ?_
      refine bd_isub (v := nI (L - 6)) hx hb dL_law_39 (nI_sub6 (by omega)) ?_
      refine bd_igt (tgt := 1127) (by omega) (by omega) hx hb dL_law_40 (by decide) (fun h => absurd h (by omega)) (fun _ => ?_)
      refine lv_aload_n hx hb dL_law_43 rfl (lv_at hl 0 rfl) ?_
      refine lv_iload hx hb dL_law_44 (lv_at hl 4 rfl) ?_
      refine va_sld hx hb hX hbl hbA hS (vp_in_nI (n := i) (by omega) (by omega)) dL_law_46 ?_
      rw [nI_clamp (by omega)]
      refine lv_bipush (v := nI 31) hx hb dL_law_47 (by decide) ?_
      obtain ⟨k, hk, he⟩ := lw_and (xs i)
      refine bd_iand (v := nI k) hx hb dL_law_49 he ?_
      refine lw_sw Y X hgo (by omega) (by omega) hI hl (fun mu ra H locs ls hI hl => ?_) k hk
      refine lv_iinc (k := 4) (v := nI (i + 6)) (lv' := [(4, .int (nI (i + 6))), (0, .ref b), (1, .ref (a 0)), (2, .ref (mo 0)), (3, .ref o)]) hx hb dL_law_1121 hl rfl (show nI i + Int32.ofInt 6 = nI (i + 6) by rw [show Int32.ofInt 6 = nI 6 by decide +kernel]; exact nI_add i 6) (by decide) rfl (fun ls hl => ?_)
      refine lv_goto (tgt := 33) hx hb dL_law_1124 (by decide) ?_
      exact ih (i + 6) (cells + 1) (slots + 6) mu ra H locs ls (by omega) (by omega) (by omega) (by omega) (by omega) hI (lv_sub hl [1, 2, 3, 4, 0] rfl)
    · exact lw_out hx hb hX hbl hbA hr hlk hL (by omega) hi2 (by omega) (by omega) (lw_I_S hI) hl
