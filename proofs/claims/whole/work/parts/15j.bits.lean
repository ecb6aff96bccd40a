/-! Long.numberOfLeadingZeros; Whole: bits, isOdd, become(long), becomePower (laid by wip/gen/m_whole10.py) -/
set_option maxHeartbeats 4000000 in
set_option maxRecDepth 100000 in
/-- Long.numberOfLeadingZeros of a limb -/
theorem cJ_nlzL (l : Launch) (K : Cxt) (E : Nat → va_E) (z0 : Nat → Wh) (sz h : Nat) (u : Nat) (h0 : 0 < u) (hu : u < 4294967296) : Met l yJ13_numberOfLeadingZeros_95d88 wsJ13_numberOfLeadingZeros_95d88 ({ frames := 1, cells := 0, slots := 0, locals := 30 }) (va_Pc [.long (lN u)] (bd_P K E z0 sz)) (va_Qi (fun r u2 => r = nI (63 - Nat.log2 u) ∧ u2 = (E, z0)) (bd_B K) (bd_A K sz)) 0 0 (bd_A K sz) := by
  refine bd_ofW (cc := cJ13_numberOfLeadingZeros_95d88) (maxL := 3) (ret := (some .int)) (by decide) rfl (Nat.le_of_ble_eq_true rfl) ?_
  intro p e s m below meth c ls C hr hlk hsz hw hl
  have hx := C.1
  have hb := C.2.1
  have hown := C.2.2.2.1
  have hts := C.2.2.2.2.1
  have ho : ∀ b, b ≠ h → z0 b = z0 b := fun _ _ => rfl
  have hl : lv_has ls 3 [(0, .long (lN u))] := hl
  have hlg := q_log32 h0 hu
  refine lv_lload_n hx hb dJ13_numberOfLeadingZeros_95d88_0 rfl (lv_at hl 0 rfl) ?_
  refine lv_bipush (v := nI 32) hx hb dJ13_numberOfLeadingZeros_95d88_1 (by decide) ?_
  refine bd_lushr (v := (lN 0)) hx hb dJ13_numberOfLeadingZeros_95d88_3 ((bd_s32 (by omega)).trans (congrArg lN (by omega))) ?_
  refine bd_l2i (v := (nI 0)) hx hb dJ13_numberOfLeadingZeros_95d88_4 (lN_i 0) ?_
  refine lv_istore_n (lv' := [(2, .int (nI 0)), (0, .long (lN u))]) hx hb dJ13_numberOfLeadingZeros_95d88_5 rfl hl (by decide) rfl (fun ls hl => ?_)
  refine lv_iload_n hx hb dJ13_numberOfLeadingZeros_95d88_6 rfl (lv_at hl 0 rfl) ?_
  refine bd_zne (h1 := (by omega)) (tgt := 21) hx hb dJ13_numberOfLeadingZeros_95d88_7 (by decide) (fun hc7 => ?_) (fun hc7 => ?_)
  · exact absurd hc7 (by decide)
  · refine lv_bipush (v := nI 32) hx hb dJ13_numberOfLeadingZeros_95d88_10 (by decide) ?_
    refine lv_lload_n hx hb dJ13_numberOfLeadingZeros_95d88_12 rfl (lv_at hl 1 rfl) ?_
    refine bd_l2i (v := (nI u)) hx hb dJ13_numberOfLeadingZeros_95d88_13 (lN_i u) ?_
    have hM : Met l yJ6_numberOfLeadingZeros_0f7a4 wsJ6_numberOfLeadingZeros_0f7a4 ({ frames := 0, cells := 0, slots := 0, locals := 0 }) (va_Pc [.int (nI u)] (bd_P K E z0 s.heap.size)) (va_Qi (fun r u2 => r = nI (31 - Nat.log2 u) ∧ u2 = (E, z0)) (bd_B K) (bd_A K s.heap.size)) 0 0 (bd_A K s.heap.size) := by
      rcases Nat.lt_or_ge u (2 ^ 31) with q | q
      · exact cJ_nlzI l K E z0 _ 0 u h0 q
      · have h9 := cJ_nlzH l K E z0 s.heap.size 0 (nI u) (q_neg31 q hu)
        rw [show nI 0 = nI (31 - Nat.log2 u) by rw [q_log31 q hu]] at h9
        exact h9
    refine bd_sip (As := [.int (nI u)]) (rest := [.int (nI 32)]) C hM (va_cwS 1 hts gJ13_numberOfLeadingZeros_95d88_J6_numberOfLeadingZeros_0f7a4 rfl rfl rfl (by decide +kernel) ⟨Nat.le_of_ble_eq_true rfl, Nat.le_of_ble_eq_true rfl⟩) hsz hw dJ13_numberOfLeadingZeros_95d88_14 rfl hl.1 rfl (by decide) ⟨Nat.le_refl _, Nat.le_refl _⟩ (fun H locs hw => ?_)
    refine bd_iadd (v := (nI (63 - Nat.log2 u))) hx hb dJ13_numberOfLeadingZeros_95d88_17 ((nI_add _ _).trans (congrArg nI (by omega))) ?_
    refine lv_goto (tgt := 25) hx hb dJ13_numberOfLeadingZeros_95d88_18 (by decide) ?_
    exact bd_iret C hr hlk hw dJ13_numberOfLeadingZeros_95d88_25 (⟨rfl, rfl⟩)
set_option maxHeartbeats 4000000 in
set_option maxRecDepth 100000 in
/-- Whole.bits() -/
theorem c3_bits (l : Launch) (K : Cxt) (E : Nat → va_E) (z0 : Nat → Wh) (sz h : Nat)  (hh : h ∈ bd_N K) {n : Nat} {g : Int32} {f : Nat → Nat} (hz : z0 h = (n, g, f)) (h24 : n ≤ 24) (hf : q_r f) (ht : bd_tp n f) : Met l yX3_bits wsX3_bits ({ frames := 2, cells := 0, slots := 0, locals := 60 }) (va_Pc [.ref h] (bd_P K E z0 sz)) (va_Qi (fun r u => r = nI (q_bl (q_s f n)) ∧ u = (E, z0)) (bd_B K) (bd_A K sz)) 0 0 (bd_A K sz) := by
  refine bd_ofW (cc := cX3_bits) (maxL := 1) (ret := (some .int)) (by decide) rfl (Nat.le_of_ble_eq_true rfl) ?_
  intro p e s m below meth c ls C hr hlk hsz hw hl
  have hx := C.1
  have hb := C.2.1
  have hown := C.2.2.2.1
  have hts := C.2.2.2.2.1
  have i3 : ∀ w ∈ wsX30, w ∈ wsX3_bits := by decide +kernel
  have lk17 : Cond.fieldLink RX3 17 "BallDesk$Whole" "size" "I" ∈ wsX3_bits := by decide +kernel
  have lk9 : Cond.fieldLink RX3 9 "BallDesk$Whole" "row" "[J" ∈ wsX3_bits := by decide +kernel
  have ho : ∀ b, b ≠ h → z0 b = z0 b := fun _ _ => rfl
  have hl : lv_has ls 1 [(0, .ref h)] := hl
  refine lv_aload_n hx hb dX3_bits_0 rfl (lv_at hl 0 rfl) ?_
  refine bd_gsz C i3 hw hh hz dX3_bits_1 lk17 ?_
  refine bd_zne (h1 := (by omega)) (tgt := 11) hx hb dX3_bits_4 (by decide) (fun hc4 => ?_) (fun hc4 => ?_)
  · have hne := ht hc4
    have hl32 := hf (n - 1) (by omega)
    have hlg := q_log32 (Nat.pos_of_ne_zero hne) hl32
    refine lv_aload_n hx hb dX3_bits_11 rfl (lv_at hl 0 rfl) ?_
    refine bd_gsz C i3 hw hh hz dX3_bits_12 lk17 ?_
    refine lv_bipush (v := nI 32) hx hb dX3_bits_15 (by decide) ?_
    refine bd_imul (v := (nI (n * 32))) hx hb dX3_bits_17 (pk_mul _ _) ?_
    refine lv_bipush (v := nI 32) hx hb dX3_bits_18 (by decide) ?_
    refine bd_iadd (v := (nI ((n * 32) + 32))) hx hb dX3_bits_20 (nI_add _ _) ?_
    refine lv_aload_n hx hb dX3_bits_21 rfl (lv_at hl 0 rfl) ?_
    refine bd_grw C i3 hw hh hz dX3_bits_22 lk9 ?_
    refine lv_aload_n hx hb dX3_bits_25 rfl (lv_at hl 0 rfl) ?_
    refine bd_gsz C i3 hw hh hz dX3_bits_26 lk17 ?_
    refine lv_iconst (v := nI 1) hx hb dX3_bits_29 (by decide) ?_
    refine bd_isub (v := (nI (n - 1))) hx hb dX3_bits_30 (bd_sub1 hc4) ?_
    refine bd_ald C hw hh hz dX3_bits_31 (by omega) ?_
    refine bd_sip (As := [.long (lN (f (n - 1)))]) (rest := [.int (nI ((n * 32) + 32))]) C (cJ_nlzL _ _ _ _ _ 0 (f (n - 1)) (Nat.pos_of_ne_zero hne) hl32) (va_cwS 1 hts gX3_bits_J13_numberOfLeadingZeros_95d88 rfl rfl rfl (by decide +kernel) ⟨Nat.le_of_ble_eq_true rfl, Nat.le_of_ble_eq_true rfl⟩) hsz hw dX3_bits_32 rfl hl.1 rfl (Nat.le_of_ble_eq_true rfl) ⟨Nat.le_refl _, Nat.le_refl _⟩ (fun H locs hw => ?_)
    refine bd_isub (v := (nI (q_bl (q_s f n)))) hx hb dX3_bits_35 ((pk_sub (by omega)).trans (congrArg nI (by rw [q_bl_top hc4 (q_r_ok hf h24) ht]; omega))) ?_
    exact bd_iret C hr hlk hw dX3_bits_36 ⟨rfl, rfl⟩
  · refine lv_iconst (v := nI 0) hx hb dX3_bits_7 (by decide) ?_
    refine lv_goto (tgt := 36) hx hb dX3_bits_8 (by decide) ?_
    exact bd_iret C hr hlk hw dX3_bits_36 ⟨by rw [hc4]; rfl, rfl⟩
set_option maxHeartbeats 4000000 in
set_option maxRecDepth 100000 in
/-- Whole.isOdd() -/
theorem c3_isOdd (l : Launch) (K : Cxt) (E : Nat → va_E) (z0 : Nat → Wh) (sz h : Nat)  (hh : h ∈ bd_N K) {n : Nat} {g : Int32} {f : Nat → Nat} (hz : z0 h = (n, g, f)) (h24 : n ≤ 24) (hf : q_r f) : Met l yX3_isOdd wsX3_isOdd ({ frames := 1, cells := 0, slots := 0, locals := 30 }) (va_Pc [.ref h] (bd_P K E z0 sz)) (va_Qi (fun r u => r = (if q_s f n % 2 = 1 then 1 else 0) ∧ u = (E, z0)) (bd_B K) (bd_A K sz)) 0 0 (bd_A K sz) := by
  refine bd_ofW (cc := cX3_isOdd) (maxL := 1) (ret := (some .boolean)) (by decide) rfl (Nat.le_of_ble_eq_true rfl) ?_
  intro p e s m below meth c ls C hr hlk hsz hw hl
  have hx := C.1
  have hb := C.2.1
  have hown := C.2.2.2.1
  have hts := C.2.2.2.2.1
  have ho : ∀ b, b ≠ h → z0 b = z0 b := fun _ _ => rfl
  have hl : lv_has ls 1 [(0, .ref h)] := hl
  have hat : q_at n f 0 < 2 ^ 64 := by
    unfold q_at
    split
    · have := hf 0 (by decide)
      exact Nat.lt_trans this (by decide)
    · decide
  have hpar := q_par (q_r_ok hf h24)
  refine lv_aload_n hx hb dX3_isOdd_0 rfl (lv_at hl 0 rfl) ?_
  refine lv_iconst (v := nI 0) hx hb dX3_isOdd_1 (by decide) ?_
  refine bd_clp (As := [.int (nI 0)]) (rest := []) C (c3_at _ _ _ _ _ _ 0 hh hz h24 (by decide)) (cwV 1 hts gX3_isOdd_X3_at rfl rfl rfl (by decide +kernel) ⟨Nat.le_of_ble_eq_true rfl, Nat.le_of_ble_eq_true rfl⟩) hsz hw (bd_recv C hw hh) dX3_isOdd_2 rfl hl.1 rfl (Nat.le_of_ble_eq_true rfl) ⟨Nat.le_refl _, Nat.le_refl _⟩ (fun H locs hw => ?_)
  refine lv_lconst (v := lN 1) hx hb dX3_isOdd_5 rfl ?_
  refine bd_land (v := (lN (q_at n f 0 % 2))) hx hb dX3_isOdd_6 (g_and1 hat) ?_
  refine lv_lconst (v := lN 0) hx hb dX3_isOdd_7 rfl ?_
  refine bd_leq (h1 := (by omega)) (h2 := (by decide)) (tgt := 16) hx hb dX3_isOdd_8 dX3_isOdd_9 (by decide) (fun hc8 => ?_) (fun hc8 => ?_)
  · refine lv_iconst (v := 0) hx hb dX3_isOdd_16 (by decide) ?_
    exact bd_zret C hr hlk hw dX3_isOdd_17 (Or.inl rfl) ⟨(if_neg (by omega)).symm, rfl⟩
  · refine lv_iconst (v := 1) hx hb dX3_isOdd_12 (by decide) ?_
    refine lv_goto (tgt := 17) hx hb dX3_isOdd_13 (by decide) ?_
    exact bd_zret C hr hlk hw dX3_isOdd_17 (Or.inr rfl) ⟨(if_pos (by omega)).symm, rfl⟩
set_option maxHeartbeats 4000000 in
set_option maxRecDepth 100000 in
/-- Whole.become(v) -/
theorem c3_become (l : Launch) (K : Cxt) (E : Nat → va_E) (z0 : Nat → Wh) (sz h : Nat) (v : Int64) (hh : h ∈ bd_N K) {n : Nat} {g : Int32} {f : Nat → Nat} (hz : z0 h = (n, g, f)) (hf : q_r f) : Met l yX3_become wsX3_become ({ frames := 1, cells := 0, slots := 0, locals := 30 }) (va_Pc [.ref h, .long v] (bd_P K E z0 sz)) (va_Qv (fun u => u.1 = E ∧ bd_n (u.2 h) v.toInt ∧ ∀ b, b ≠ h → u.2 b = z0 b) (bd_B K) (bd_A K sz)) 0 0 (bd_A K sz) := by
  refine bd_ofW (cc := cX3_become) (maxL := 5) (ret := none) (by decide) rfl (Nat.le_of_ble_eq_true rfl) ?_
  intro p e s m below meth c ls C hr hlk hsz hw hl
  have hx := C.1
  have hb := C.2.1
  have hown := C.2.2.2.1
  have hts := C.2.2.2.2.1
  have i3 : ∀ w ∈ wsX30, w ∈ wsX3_become := by decide +kernel
  have lk9 : Cond.fieldLink RX3 9 "BallDesk$Whole" "row" "[J" ∈ wsX3_become := by decide +kernel
  have lk30 : Cond.constantLong RX3 30 (4294967295) ∈ wsX3_become := by decide +kernel
  have lk13 : Cond.fieldLink RX3 13 "BallDesk$Whole" "sign" "I" ∈ wsX3_become := by decide +kernel
  have ho : ∀ b, b ≠ h → z0 b = z0 b := fun _ _ => rfl
  have hl : lv_has ls 5 [(0, .ref h), (1, .long v)] := hl
  obtain ⟨hn1, hn2, hn3⟩ := q_abs (x := v)
  obtain ⟨P, hPe⟩ : ∃ P, v.toInt.natAbs = P := ⟨_, rfl⟩
  rw [hPe] at hn1 hn2 hn3
  have hP : P < 2 ^ 64 := by omega
  suffices hj12 : W p l e (headSpec wsX3_become ({ frames := 1, cells := 0, slots := 0, locals := 30 })).room s m [.ref h, .long v].toArray below meth c s.heap [] 0 0 (MQ below (va_Qv (fun u => u.1 = E ∧ bd_n (u.2 h) v.toInt ∧ ∀ b, b ≠ h → u.2 b = z0 b) (bd_B K) (bd_A K sz)) [.ref h, .long v].toArray s 0 0 (bd_A K sz)) (F0 m 12 ls [.long (lN P)]) by
    refine lv_lload_n hx hb dX3_become_0 rfl (lv_at hl 1 rfl) ?_
    refine lv_lconst (v := lN 0) hx hb dX3_become_1 rfl ?_
    refine bd_lsg (tgt := 11) hx hb dX3_become_2 dX3_become_3 (by decide) (fun hc => ?_) (fun hc => ?_)
    · refine lv_lload_n hx hb dX3_become_11 rfl (lv_at hl 1 rfl) ?_
      rw [← hn2 hc] at hj12
      exact hj12
    · refine lv_lload_n hx hb dX3_become_6 rfl (lv_at hl 1 rfl) ?_
      refine bd_lneg (v := lN P) hx hb dX3_become_7 (hn1 hc) ?_
      refine lv_goto (tgt := 12) hx hb dX3_become_8 (by decide) ?_
      exact hj12
  refine lv_lstore_n (lv' := [(3, .long (lN P)), (0, .ref h), (1, .long v)]) hx hb dX3_become_12 rfl hl (by decide) rfl (fun ls hl => ?_)
  refine lv_aload_n hx hb dX3_become_13 rfl (lv_at hl 1 rfl) ?_
  refine bd_grw C i3 hw hh hz dX3_become_14 lk9 ?_
  refine lv_iconst (v := nI 0) hx hb dX3_become_17 (by decide) ?_
  refine lv_lload_n hx hb dX3_become_18 rfl (lv_at hl 0 rfl) ?_
  refine lv_ldc2 (v := lN 4294967295) hx hb hown (hts _ lk30) dX3_become_19 ?_
  refine bd_land (v := (lN (P % 4294967296))) hx hb dX3_become_22 (bd_m32 hP) ?_
  refine bd_ast C hw hh hz dX3_become_23 (by decide) (fun z H locs hz hfr hw => ?_)
  have hz : z h = (n, g, (va_up f 0 (P % 4294967296))) := hz
  have ho := bd_tr hfr ho
  refine lv_aload_n hx hb dX3_become_24 rfl (lv_at hl 1 rfl) ?_
  refine bd_grw C i3 hw hh hz dX3_become_25 lk9 ?_
  refine lv_iconst (v := nI 1) hx hb dX3_become_28 (by decide) ?_
  refine lv_lload_n hx hb dX3_become_29 rfl (lv_at hl 0 rfl) ?_
  refine lv_bipush (v := nI 32) hx hb dX3_become_30 (by decide) ?_
  refine bd_lushr (v := (lN (P / 4294967296))) hx hb dX3_become_32 (bd_s32 hP) ?_
  refine bd_ast C hw hh hz dX3_become_33 (by decide) (fun z H locs hz hfr hw => ?_)
  have hz : z h = (n, g, (va_up (va_up f 0 (P % 4294967296)) 1 (P / 4294967296))) := hz
  have ho := bd_tr hfr ho
  refine lv_aload_n hx hb dX3_become_34 rfl (lv_at hl 1 rfl) ?_
  refine lv_lload_n hx hb dX3_become_35 rfl (lv_at hl 2 rfl) ?_
  refine bd_sip (As := [.long v]) (rest := [.ref h]) C (cJ_sgL _ _ _ _ _ 0 v) (va_cwS 1 hts gX3_become_J13_signum_95d88 rfl rfl rfl (by decide +kernel) ⟨Nat.le_of_ble_eq_true rfl, Nat.le_of_ble_eq_true rfl⟩) hsz hw dX3_become_36 rfl hl.1 rfl (Nat.le_of_ble_eq_true rfl) ⟨Nat.le_refl _, Nat.le_refl _⟩ (fun H locs hw => ?_)
  refine bd_psg C i3 hw hh hz dX3_become_39 lk13 (fun z H locs hz hfr hw => ?_)
  have hz : z h = (n, (q_sg v.toInt), (va_up (va_up f 0 (P % 4294967296)) 1 (P / 4294967296))) := hz
  have ho := bd_tr hfr ho
  refine lv_aload_n hx hb dX3_become_42 rfl (lv_at hl 1 rfl) ?_
  refine lv_iconst (v := nI 2) hx hb dX3_become_43 (by decide) ?_
  have hrr : q_r (va_up (va_up f 0 (P % 4294967296)) 1 (P / 4294967296)) := q_r_up (q_r_up hf (Nat.mod_lt _ (by decide))) (by omega)
  refine bd_cv (As := [.int (nI 2)]) (rest := []) C (c3_trim _ _ _ _ _ _ 2 hh hz (by decide) hrr) (cwV 1 hts gX3_become_X3_trim rfl rfl rfl (by decide +kernel) ⟨Nat.le_of_ble_eq_true rfl, Nat.le_of_ble_eq_true rfl⟩) hsz hw (bd_recv C hw hh) dX3_become_44 rfl hl.1 rfl (Nat.le_of_ble_eq_true rfl) ⟨Nat.le_refl _, Nat.le_refl _⟩ (fun E1 z H locs hp hw => ?_)
  obtain ⟨hE, hz2, hfr⟩ := hp
  rw [show E1 = E from hE] at hw
  have ho := bd_tr (z2 := z) hfr ho
  have hqs : q_s (va_up (va_up f 0 (P % 4294967296)) 1 (P / 4294967296)) 2 = P := by
    show 0 + (va_up (va_up f 0 (P % 4294967296)) 1 (P / 4294967296)) 0 * 4294967296 ^ 0 + (va_up (va_up f 0 (P % 4294967296)) 1 (P / 4294967296)) 1 * 4294967296 ^ 1 = P
    rw [va_up_self, va_up_ne _ _ (by decide), va_up_self, Nat.pow_zero, Nat.pow_one]
    omega
  have hsv := q_sgv v.toInt
  rw [hPe] at hsv
  exact bd_vret C hr hlk hw dX3_become_47 ⟨rfl, by rw [show (E, z).2 h = _ from hz2]; exact bd_fin hrr (by decide) (hsv.2.elim Or.inl (fun q => Or.inr (by rw [hqs]; exact q))) (by rw [hqs]; exact hsv.1), ho⟩
set_option maxHeartbeats 4000000 in
set_option maxRecDepth 100000 in
/-- Whole.becomePower(k) -/
theorem c3_becomePower (l : Launch) (K : Cxt) (E : Nat → va_E) (z0 : Nat → Wh) (sz h : Nat) (k : Nat) (hh : h ∈ bd_N K) {n : Nat} {g : Int32} {f : Nat → Nat} (hz : z0 h = (n, g, f)) (hf : q_r f) (hk : k < 768) : Met l yX3_becomePower wsX3_becomePower ({ frames := 1, cells := 0, slots := 0, locals := 30 }) (va_Pc [.ref h, .int (nI k)] (bd_P K E z0 sz)) (va_Qv (fun u => u.1 = E ∧ bd_n (u.2 h) ((2 ^ k : Nat) : Int) ∧ ∀ b, b ≠ h → u.2 b = z0 b) (bd_B K) (bd_A K sz)) 0 0 (bd_A K sz) := by
  refine bd_ofW (cc := cX3_becomePower) (maxL := 4) (ret := none) (by decide) rfl (Nat.le_of_ble_eq_true rfl) ?_
  intro p e s m below meth c ls C hr hlk hsz hw hl
  have hx := C.1
  have hb := C.2.1
  have hown := C.2.2.2.1
  have hts := C.2.2.2.2.1
  have i3 : ∀ w ∈ wsX30, w ∈ wsX3_becomePower := by decide +kernel
  have lk9 : Cond.fieldLink RX3 9 "BallDesk$Whole" "row" "[J" ∈ wsX3_becomePower := by decide +kernel
  have lk17 : Cond.fieldLink RX3 17 "BallDesk$Whole" "size" "I" ∈ wsX3_becomePower := by decide +kernel
  have lk13 : Cond.fieldLink RX3 13 "BallDesk$Whole" "sign" "I" ∈ wsX3_becomePower := by decide +kernel
  have ho : ∀ b, b ≠ h → z0 b = z0 b := fun _ _ => rfl
  have hl : lv_has ls 4 [(0, .ref h), (1, .int (nI k))] := hl
  refine lv_iload_n hx hb dX3_becomePower_0 rfl (lv_at hl 1 rfl) ?_
  refine lv_bipush (v := nI 32) hx hb dX3_becomePower_1 (by decide) ?_
  refine bd_idiv (v := (nI (k / 32))) hx hb dX3_becomePower_3 (by decide +kernel) (pk_div (by omega) (by decide) (by decide)) ?_
  refine lv_istore_n (lv' := [(2, .int (nI (k / 32))), (0, .ref h), (1, .int (nI k))]) hx hb dX3_becomePower_4 rfl hl (by decide) rfl (fun ls hl => ?_)
  refine lv_iload_n hx hb dX3_becomePower_5 rfl (lv_at hl 2 rfl) ?_
  refine bd_zlt (h1 := by omega) hx hb dX3_becomePower_6 (tgt := 15) (by decide) ?_
  refine lv_iload_n hx hb dX3_becomePower_9 rfl (lv_at hl 0 rfl) ?_
  refine lv_bipush (v := nI 24) hx hb dX3_becomePower_10 (by decide) ?_
  refine bd_ilt (h1 := (by omega)) (h2 := (by omega)) (tgt := 20) hx hb dX3_becomePower_12 (by decide) (fun hc12 => ?_) (fun hc12 => ?_)
  · refine lv_iconst (v := nI 0) hx hb dX3_becomePower_20 (by decide) ?_
    refine lv_istore_n (lv' := [(3, .int (nI 0)), (2, .int (nI (k / 32))), (0, .ref h), (1, .int (nI k))]) hx hb dX3_becomePower_21 rfl hl (by decide) rfl (fun ls hl => ?_)
    suffices hloop : ∀ (d i : Nat) (z : Nat → Wh) (ls : Array Slot) (H : Heap) (locs : List Loc) (fh : Nat → Nat), i + d = k / 32 → z h = (n, g, fh) → q_r fh → (∀ j, j < i → fh j = 0) → (∀ b, b ≠ h → z b = z0 b) → lv_has ls 4 [(3, .int (nI i)), (2, .int (nI (k / 32))), (0, .ref h), (1, .int (nI k))] → bd_W K E z (bd_A K sz) s.heap H locs → W p l e (headSpec wsX3_becomePower ({ frames := 1, cells := 0, slots := 0, locals := 30 })).room s m [.ref h, .int (nI k)].toArray below meth c H locs 0 0 (MQ below (va_Qv (fun u => u.1 = E ∧ bd_n (u.2 h) ((2 ^ k : Nat) : Int) ∧ ∀ b, b ≠ h → u.2 b = z0 b) (bd_B K) (bd_A K sz)) [.ref h, .int (nI k)].toArray s 0 0 (bd_A K sz)) (F0 m 22 ls []) from hloop (k / 32) 0 z0 ls _ _ f (by omega) hz hf (fun j hj => absurd hj (by omega)) ho (lv_sub hl [0, 1, 2, 3] rfl) hw
    clear hw hl ls ho hz
    intro d
    induction d using Nat.strongRecOn with
    | ind d ih =>
      intro i z ls H locs fh hid hz hfh h0 ho hl hw
      refine lv_iload_n hx hb dX3_becomePower_22 rfl (lv_at hl 0 rfl) ?_
      refine lv_iload_n hx hb dX3_becomePower_23 rfl (lv_at hl 1 rfl) ?_
      refine bd_ige (h1 := (by omega)) (h2 := (by omega)) (tgt := 40) hx hb dX3_becomePower_24 (by decide) (fun hc24 => ?_) (fun hc24 => ?_)
      · refine lv_aload_n hx hb dX3_becomePower_40 rfl (lv_at hl 2 rfl) ?_
        refine bd_grw C i3 hw hh hz dX3_becomePower_41 lk9 ?_
        refine lv_iload_n hx hb dX3_becomePower_44 rfl (lv_at hl 1 rfl) ?_
        refine lv_lconst (v := lN 1) hx hb dX3_becomePower_45 rfl ?_
        refine lv_iload_n hx hb dX3_becomePower_46 rfl (lv_at hl 3 rfl) ?_
        refine lv_bipush (v := nI 32) hx hb dX3_becomePower_47 (by decide) ?_
        refine bd_irem (v := (nI (k % 32))) hx hb dX3_becomePower_49 (by decide +kernel) (pk_rem (by omega) (by decide) (by decide)) ?_
        refine bd_lshl (v := (lN (2 ^ (k % 32)))) hx hb dX3_becomePower_50 ((wb_shl 1 (by omega)).trans (congrArg lN (Nat.one_mul _))) ?_
        refine bd_ast C hw hh hz dX3_becomePower_51 (by omega) (fun z H locs hz hfr hw => ?_)
        have hz : z h = (n, g, (va_up fh (k / 32) (2 ^ (k % 32)))) := hz
        have ho := bd_tr hfr ho
        refine lv_aload_n hx hb dX3_becomePower_52 rfl (lv_at hl 2 rfl) ?_
        refine lv_iload_n hx hb dX3_becomePower_53 rfl (lv_at hl 1 rfl) ?_
        refine lv_iconst (v := nI 1) hx hb dX3_becomePower_54 (by decide) ?_
        refine bd_iadd (v := (nI ((k / 32) + 1))) hx hb dX3_becomePower_55 (nI_add _ _) ?_
        refine bd_psz C i3 hw hh hz dX3_becomePower_56 lk17 (fun z H locs hz hfr hw => ?_)
        have hz : z h = (((k / 32) + 1), g, (va_up fh (k / 32) (2 ^ (k % 32)))) := hz
        have ho := bd_tr hfr ho
        refine lv_aload_n hx hb dX3_becomePower_59 rfl (lv_at hl 2 rfl) ?_
        refine lv_iconst (v := 1) hx hb dX3_becomePower_60 (by decide) ?_
        refine bd_psg C i3 hw hh hz dX3_becomePower_61 lk13 (fun z H locs hz hfr hw => ?_)
        have hz : z h = (((k / 32) + 1), 1, (va_up fh (k / 32) (2 ^ (k % 32)))) := hz
        have ho := bd_tr hfr ho
        have h32 : 2 ^ (k % 32) < 4294967296 := Nat.lt_of_lt_of_le (Nat.pow_lt_pow_right (by decide) (Nat.mod_lt k (show 0 < 32 by decide))) (by decide)
        have hi : i = k / 32 := by omega
        rw [hi] at h0
        have hqs : q_s (va_up fh (k / 32) (2 ^ (k % 32))) (k / 32 + 1) = 2 ^ k := by
          show q_s (va_up fh (k / 32) (2 ^ (k % 32))) (k / 32) + (va_up fh (k / 32) (2 ^ (k % 32))) (k / 32) * _ = _
          rw [va_up_self, q_cg (f := fh) (fun j hj => va_up_ne _ _ (by omega)), q_zz h0, Nat.zero_add, q_pw]
        have hn2 : bd_n (k / 32 + 1, 1, (va_up fh (k / 32) (2 ^ (k % 32)))) ((2 ^ k : Nat) : Int) := by
          refine ⟨⟨by show k / 32 + 1 ≤ 24; omega, q_r_up hfh h32, fun _ => ?_, Or.inr ⟨Nat.succ_pos _, Or.inl rfl⟩⟩, ?_⟩
          · show (va_up fh (k / 32) (2 ^ (k % 32))) (k / 32 + 1 - 1) ≠ 0
            rw [Nat.add_sub_cancel, va_up_self]
            exact Nat.ne_of_gt (Nat.pow_pos (by decide))
          · show (1 : Int32).toInt * ((q_s (va_up fh (k / 32) (2 ^ (k % 32))) (k / 32 + 1) : Nat) : Int) = _
            rw [hqs, i1, Int.one_mul]
        exact bd_vret C hr hlk hw dX3_becomePower_64 ⟨rfl, by rw [show (E, z).2 h = _ from hz]; exact hn2, ho⟩
      · refine lv_aload_n hx hb dX3_becomePower_27 rfl (lv_at hl 2 rfl) ?_
        refine bd_grw C i3 hw hh hz dX3_becomePower_28 lk9 ?_
        refine lv_iload_n hx hb dX3_becomePower_31 rfl (lv_at hl 0 rfl) ?_
        refine lv_lconst (v := lN 0) hx hb dX3_becomePower_32 rfl ?_
        refine bd_ast C hw hh hz dX3_becomePower_33 (by omega) (fun z H locs hz hfr hw => ?_)
        have hz : z h = (n, g, (va_up fh i 0)) := hz
        have ho := bd_tr hfr ho
        refine lv_iinc (v := (nI (i + 1))) (lv' := [(3, .int (nI (i + 1))), (2, .int (nI (k / 32))), (0, .ref h), (1, .int (nI k))]) hx hb dX3_becomePower_34 hl (k := 0) rfl (nI_1 _) (by decide) rfl (fun ls hl => ?_)
        refine lv_goto (tgt := 22) hx hb dX3_becomePower_37 (by decide) ?_
        exact ih (d - 1) (by omega) (i + 1) z ls H locs _ (by omega) hz (q_r_up hfh (by decide)) (fun j hj => if q : j = i then by rw [q, va_up_self] else by rw [va_up_ne _ _ q]; exact h0 j (by omega)) ho (lv_sub hl [0, 1, 2, 3] rfl) hw
  · exact absurd hc12 (by omega)
