/-! the law: the call limb -/
theorem lg_cmp_self (x : Int64) : lg_cmp x x = 0 := by
  unfold lg_cmp
  rw [if_neg (by simp), if_pos rfl]
set_option maxHeartbeats 4000000 in
set_option maxRecDepth 100000 in
theorem lw_k_limb {p : Program} {l : Launch} {e : Env} {s : State} {m : MethodId} {below : List Frame} {meth : Method} {c : Code} {b L : Nat} {xs : Nat → Int32} {K1 K2 : Cxt} {P : Nat} {a B mo : Nat → Nat} {o i cells slots sa : Nat} {Q : State → Prop} (htr : l.stackTraces = false) (hLB : lb_Ns s) (hst : vk_R RX4 195 "no such limb" sa s) (hZ1 : vx_Zq Bundle.tN "UNASSIGNED_STACK" Bundle.steD (lw_Af s) s s.heap) (hZ2 : vx_Zq Bundle.tN "SUPPRESSED_SENTINEL" Bundle.listD (lw_Af s) s s.heap) (X : lw_X p s m c b L xs K1 K2 o) (hi : i + 5 < L) (hc : cells + 1 ≤ 601024) (hs : slots + 6 ≤ 7293000) {mu ra : Nat → Int} {H : Heap} {locs : List Loc} {ls : Array Slot} (hI : lw_I K1 K2 P a B mo o s mu ra H locs) (hl : lv_has ls 8 (lw_lv b a mo o i)) (hN : lw_N p l e s m below meth c b K1 K2 P a B mo o i cells slots Q) : W p l e room_1 s m #[Value.ref b] below meth c H locs cells slots Q (F0 m 955 ls []) := by
  obtain ⟨C1, C2, hX, hbl, hL, hd12, ho1, ho2, hoA⟩ := X
  obtain ⟨E1, z1, sg, E2, z2, th, rg, ov, hbk, hS, hiv, hv, hiv2, hw1, hw2, ho⟩ := hI
  have hx := C1.1
  have hb := C1.2.1
  have hown := C1.2.2.2.1
  have hts := C1.2.2.2.2.1
  have hK := C1.2.2.2.2.2.1
  have hy := C1.2.2.2.2.2.2.1
  have hNs := C1.2.2.2.2.2.2.2
  have hA : ∀ q, s.heap.size ≤ q → lw_Af s q := fun _ h => h
  have hbA : ¬ lw_Af s b := Nat.not_le.mpr hbl
  have hd21 : ∀ q, q ∈ bd_L K2 → q ∉ bd_L K1 := fun q h2 h1 => hd12 q h1 h2
  have h0 := lv_at hl 0 rfl
  have h4 := lv_at hl 4 rfl
  refine lv_aload_n hx hb dL_law_955 rfl (lv_at hl 1 rfl) ?_
  refine lw_rd (k := 1) hx hb hX hbl hbA hw1.2.2 h0 h4 (by omega) hL (by decide) dL_law_956 dL_law_957 dL_law_959 dL_law_960 dL_law_961 ?_
  refine lw_rd (k := 2) hx hb hX hbl hbA hw1.2.2 h0 h4 (by omega) hL (by decide) dL_law_962 dL_law_963 dL_law_965 dL_law_966 dL_law_967 ?_
  refine lw_rd (k := 3) hx hb hX hbl hbA hw1.2.2 h0 h4 (by omega) hL (by decide) dL_law_968 dL_law_969 dL_law_971 dL_law_972 dL_law_973 ?_
  refine lv_aload_n hx hb dL_law_974 rfl (lv_at hl 3 rfl) ?_
  have hAq : ∀ q, lq_A K1 o H.size q → lw_Af s q := fun q h => by
    rcases h with h | h | h
    · exact lw_fr hA hw1 q (Or.inl h)
    · rw [h]; exact hoA
    · exact Nat.le_trans hw1.2.2.1 h
  have hP : va_P (bd_D K1) vwCl (lq_w K1 E1 z1 o ov) H := va_P.app ho hw1.1
  have hD : va_D (fun _ => True) (lq_w K1 E1 z1 o ov) := lq_d ⟨hw1.2.1.1, fun _ _ _ => trivial⟩ ho1 trivial
  have hkz : ∀ q : Nat, q < s.heap.size → ¬ lw_Af s q → H[q]? = s.heap[q]? := hw1.2.2.2.1
  refine va_calli (vx_runSW (hh := [(0, 11, 14, 13)]) (As := [.ref (a 0), .int (xs (i + 1)), .int (xs (i + 2)), .int (xs (i + 3)), .ref o]) (rest := []) ⟨hx, hb, C1.2.2.1, hown, hts⟩ (lw_limbC l htr K1 E1 z1 H.size sa hbk hS hiv o ov (xs (i + 1)) (xs (i + 2)) (xs (i + 3))) (vx_cwSW 5 hts gL_law_L_limb rfl rfl rfl (by decide +kernel) ⟨Nat.le_of_ble_eq_true rfl, Nat.le_of_ble_eq_true rfl⟩) ⟨lq_blind, fun U hU hW => ⟨rfl, by rw [hU], by rw [hU]; exact hP, va_K.moved hW.alike hK, hD, hy, hNs.warm hW, vk_R.warm hW hst, by rw [hU]; exact vx_Zq.moved hW.alike ((hZ1.kept hkz).narrow hAq), by rw [hU]; exact vx_Zq.moved hW.alike ((hZ2.kept hkz).narrow hAq), hLB.warm hW⟩⟩ rfl rfl hl.1 rfl (lv_room (Nat.le_of_ble_eq_true rfl)) dL_law_975 ⟨hc, hs⟩) hw1.2.2 (fun q _ h => hAq q h) hAq (fun r u t H1 locs1 ht hvm hp hB hz hk hS1 => ?_)
  obtain ⟨hbk, ⟨sg, hS, hiv⟩, hpr⟩ := hp
  unfold lq_B at hB
  rw [ht] at hB
  have hw1 : bd_W K1 u.1.1 u.1.2 (lw_Af s) s.heap H1 locs1 := ⟨lq_r hB, pl_D hw1.2.1, hS1⟩
  have ho := lq_l hB
  have hw2 : bd_W K2 E2 z2 (lw_Af s) s.heap H1 locs1 := ⟨hw2.1.kept (fun k q hq => hk _ ((hw2.1 k q hq).lt) (fun h => by
    have hm : q.1 ∈ bd_L K2 := List.mem_of_getElem? (pl_k hq).1
    rcases h with h | h | h
    · exact hd12 _ h hm
    · exact ho2 (by rw [← h]; exact hm)
    · exact Nat.not_le.mpr ((hw2.1 k q hq).lt) h)), hw2.2.1, hS1⟩
  refine lv_istore (lv' := [(5, .int r), (0, .ref b), (1, .ref (a 0)), (2, .ref (mo 0)), (3, .ref o), (4, .int (nI i))]) hx hb dL_law_978 hl (by decide) rfl (fun ls hl => ?_)
  have h0 := lv_at hl 1 rfl
  have h4 := lv_at hl 5 rfl
  refine lv_aload_n hx hb dL_law_980 rfl (lv_at hl 3 rfl) ?_
  refine lw_rd (k := 1) hx hb hX hbl hbA hw1.2.2 h0 h4 (by omega) hL (by decide) dL_law_981 dL_law_982 dL_law_984 dL_law_985 dL_law_986 ?_
  refine lw_rd (k := 2) hx hb hX hbl hbA hw1.2.2 h0 h4 (by omega) hL (by decide) dL_law_987 dL_law_988 dL_law_990 dL_law_991 dL_law_992 ?_
  refine lw_rd (k := 3) hx hb hX hbl hbA hw1.2.2 h0 h4 (by omega) hL (by decide) dL_law_993 dL_law_994 dL_law_996 dL_law_997 dL_law_998 ?_
  refine lw_cl (As := [.int (xs (i + 1)), .int (xs (i + 2)), .int (xs (i + 3))]) (rest := []) C2 hA (v5_limb _ _ _ _ _ hv hiv2 (xs (i + 1)) (xs (i + 2)) (xs (i + 3))) (cwV 3 hts gL_law_X5_limb rfl rfl rfl (by decide +kernel) ⟨Nat.le_of_ble_eq_true rfl, Nat.le_of_ble_eq_true rfl⟩) hw2 (mv_recv C2 hw2 hv) dL_law_999 rfl hl.1 rfl (Nat.le_of_ble_eq_true rfl) ⟨hc, hs⟩ (fun r2 E2 z2 H2 locs2 hp2 hw2 hk2 => ?_)
  have hw1 := lw_keep hw1 hk2 hd12 hw2.2.2
  have ho := lw_keepo ho hk2 ho2
  obtain ⟨hr2, rg, hv, hiv2⟩ := hp2
  refine lv_lstore (lv' := [(6, .long r2), (5, .int r), (0, .ref b), (1, .ref (a 0)), (2, .ref (mo 0)), (3, .ref o), (4, .int (nI i))]) hx hb dL_law_1002 hl (by decide) rfl (fun ls hl => ?_)
  refine lv_aload_n hx hb dL_law_1004 rfl (lv_at hl 4 rfl) ?_
  refine lw_ci (As := []) (rest := []) C2 hA (v5_thrown _ _ _ _ _ hv) (cwV 0 hts gL_law_X5_thrown rfl rfl rfl (by decide +kernel) ⟨Nat.le_of_ble_eq_true rfl, Nat.le_of_ble_eq_true rfl⟩) hw2 (mv_recv C2 hw2 hv) dL_law_1005 rfl hl.1 rfl (Nat.le_of_ble_eq_true rfl) ⟨hc, hs⟩ (fun r3 E3 z3 H3 locs3 hp3 hw6 hk3 => ?_)
  have hw5 := lw_keep hw1 hk3 hd12 hw6.2.2
  have ho7 := lw_keepo ho hk3 ho2
  obtain ⟨hr3, hu⟩ := hp3
  have hu1 := (Prod.mk.inj hu).1
  have hu2 := (Prod.mk.inj hu).2
  rw [hu1, hu2] at hw6
  have hIn : lw_I K1 K2 P a B mo o s mu ra H3 locs3 := ⟨_, _, sg, _, _, _, rg, u.2, hbk, hS, hiv, hv, hiv2, hw5, hw6, ho7⟩
  have hln : lv_has ls 8 (lw_lv b a mo o i) := lv_sub hl [2, 3, 4, 5, 6] rfl
  refine lv_iload hx hb dL_law_1008 (lv_at hl 1 rfl) ?_
  have he : r3 = r := by
    rw [hr3]
    rcases hpr with ⟨h1, h2⟩ | ⟨h1, h2⟩
    · rw [h2, h1]
    · rw [h2, h1]
  refine lv_icmp_eq (tgt := 1015) hx hb dL_law_1010 (by decide) (fun _ => ?_) (fun h => absurd he h)
  refine lv_iload hx hb dL_law_1015 (lv_at hl 1 rfl) ?_
  refine lv_if_ne (tgt := 1031) hx hb dL_law_1017 (by decide) (fun _ => ?_) (fun hr0 => ?_)
  · refine lv_goto (tgt := 1121) hx hb dL_law_1031 (by decide) ?_
    exact hN _ _ _ _ _ hIn hln
  · refine lv_aload_n hx hb dL_law_1020 rfl (lv_at hl 5 rfl) ?_
    refine lv_iconst (v := nI 0) hx hb dL_law_1021 (by decide) ?_
    refine va_lald hx hb hK ho7 0 1 rfl rfl (vp_in_nI (n := 0) (by decide) (by decide)) dL_law_1022 ?_
    rw [nI_clamp (by decide)]
    refine lv_lload hx hb dL_law_1023 (lv_at hl 0 rfl) ?_
    have h2 : u.2 0 = r2 := by
      rw [hr2]
      rcases hpr with ⟨h1, h2⟩ | ⟨h1, h2⟩
      · rw [h2]
      · rw [hr0] at h1
        exact absurd h1 (by decide)
    refine bd_lcmp (v := 0) hx hb dL_law_1025 (by rw [h2]; exact lg_cmp_self _) ?_
    refine lv_if_eq (tgt := 1031) hx hb dL_law_1026 (by decide) (fun _ => ?_) (fun h => absurd rfl h)
    refine lv_goto (tgt := 1121) hx hb dL_law_1031 (by decide) ?_
    exact hN _ _ _ _ _ hIn hln
