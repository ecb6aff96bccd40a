/-! the JDK: signum, numberOfLeadingZeros(int) (laid by wip/gen/m_jdk2.py) -/
set_option maxHeartbeats 4000000 in
set_option maxRecDepth 100000 in
/-- Integer.signum -/
theorem cJ_sgI (l : Launch) (K : Cxt) (E : Nat → va_E) (z0 : Nat → Wh) (sz h : Nat) (x : Int32)  : Met l yJ6_signum_0f7a4 wsJ6_signum_0f7a4 ({ frames := 0, cells := 0, slots := 0, locals := 0 }) (va_Pc [.int x] (bd_P K E z0 sz)) (va_Qi (fun r u => r = q_sg x.toInt ∧ u = (E, z0)) (bd_B K) (bd_A K sz)) 0 0 (bd_A K sz) := by
  refine bd_ofW (cc := cJ6_signum_0f7a4) (maxL := 1) (ret := (some .int)) (by decide) rfl (Nat.le_of_ble_eq_true rfl) ?_
  intro p e s m below meth c ls C hr hlk hsz hw hl
  have hx := C.1
  have hb := C.2.1
  have hown := C.2.2.2.1
  have hts := C.2.2.2.2.1
  have ho : ∀ b, b ≠ h → z0 b = z0 b := fun _ _ => rfl
  have hl : lv_has ls 1 [(0, .int x)] := hl
  refine lv_iload_n hx hb dJ6_signum_0f7a4_0 rfl (lv_at hl 0 rfl) ?_
  refine lv_bipush (v := nI 31) hx hb dJ6_signum_0f7a4_1 (by decide) ?_
  refine lv_ishr hx hb dJ6_signum_0f7a4_3 ?_
  refine lv_iload_n hx hb dJ6_signum_0f7a4_4 rfl (lv_at hl 0 rfl) ?_
  refine lv_ineg hx hb dJ6_signum_0f7a4_5 ?_
  refine lv_bipush (v := nI 31) hx hb dJ6_signum_0f7a4_6 (by decide) ?_
  refine bd_iushr hx hb dJ6_signum_0f7a4_8 rfl ?_
  refine bd_ior hx hb dJ6_signum_0f7a4_9 (sg_i x) ?_
  exact bd_iret C hr hlk hw dJ6_signum_0f7a4_10 ⟨rfl, rfl⟩
set_option maxHeartbeats 4000000 in
set_option maxRecDepth 100000 in
/-- Long.signum -/
theorem cJ_sgL (l : Launch) (K : Cxt) (E : Nat → va_E) (z0 : Nat → Wh) (sz h : Nat) (x : Int64)  : Met l yJ13_signum_95d88 wsJ13_signum_95d88 ({ frames := 0, cells := 0, slots := 0, locals := 0 }) (va_Pc [.long x] (bd_P K E z0 sz)) (va_Qi (fun r u => r = q_sg x.toInt ∧ u = (E, z0)) (bd_B K) (bd_A K sz)) 0 0 (bd_A K sz) := by
  refine bd_ofW (cc := cJ13_signum_95d88) (maxL := 2) (ret := (some .int)) (by decide) rfl (Nat.le_of_ble_eq_true rfl) ?_
  intro p e s m below meth c ls C hr hlk hsz hw hl
  have hx := C.1
  have hb := C.2.1
  have hown := C.2.2.2.1
  have hts := C.2.2.2.2.1
  have ho : ∀ b, b ≠ h → z0 b = z0 b := fun _ _ => rfl
  have hl : lv_has ls 2 [(0, .long x)] := hl
  refine lv_lload_n hx hb dJ13_signum_95d88_0 rfl (lv_at hl 0 rfl) ?_
  refine lv_bipush (v := nI 63) hx hb dJ13_signum_95d88_1 (by decide) ?_
  refine bd_lshr hx hb dJ13_signum_95d88_3 rfl ?_
  refine lv_lload_n hx hb dJ13_signum_95d88_4 rfl (lv_at hl 0 rfl) ?_
  refine lv_lneg hx hb dJ13_signum_95d88_5 ?_
  refine lv_bipush (v := nI 63) hx hb dJ13_signum_95d88_6 (by decide) ?_
  refine bd_lushr hx hb dJ13_signum_95d88_8 rfl ?_
  refine bd_lor hx hb dJ13_signum_95d88_9 rfl ?_
  refine bd_l2i hx hb dJ13_signum_95d88_10 (sg_l x) ?_
  exact bd_iret C hr hlk hw dJ13_signum_95d88_11 ⟨rfl, rfl⟩
set_option maxHeartbeats 4000000 in
set_option maxRecDepth 100000 in
/-- Integer.numberOfLeadingZeros, above 0 -/
theorem cJ_nlzI (l : Launch) (K : Cxt) (E : Nat → va_E) (z0 : Nat → Wh) (sz h : Nat) (u : Nat) (h0 : 0 < u) (hu : u < 2 ^ 31) : Met l yJ6_numberOfLeadingZeros_0f7a4 wsJ6_numberOfLeadingZeros_0f7a4 ({ frames := 0, cells := 0, slots := 0, locals := 0 }) (va_Pc [.int (nI u)] (bd_P K E z0 sz)) (va_Qi (fun r u2 => r = nI (31 - Nat.log2 u) ∧ u2 = (E, z0)) (bd_B K) (bd_A K sz)) 0 0 (bd_A K sz) := by
  refine bd_ofW (cc := cJ6_numberOfLeadingZeros_0f7a4) (maxL := 2) (ret := (some .int)) (by decide) rfl (Nat.le_of_ble_eq_true rfl) ?_
  intro p e s m below meth c ls C hr hlk hsz hw hl
  have hx := C.1
  have hb := C.2.1
  have hown := C.2.2.2.1
  have hts := C.2.2.2.2.1
  have ho : ∀ b, b ≠ h → z0 b = z0 b := fun _ _ => rfl
  have hl : lv_has ls 2 [(0, .int (nI u))] := hl
  refine lv_iload_n hx hb dJ6_numberOfLeadingZeros_0f7a4_0 rfl (lv_at hl 0 rfl) ?_
  refine bd_zgt (h1 := hu) (tgt := 15) hx hb dJ6_numberOfLeadingZeros_0f7a4_1 (by decide) (fun _ => ?_) (fun hc => absurd hc (by omega))
  refine lv_bipush (v := nI 31) hx hb dJ6_numberOfLeadingZeros_0f7a4_15 (by decide) ?_
  refine lv_istore_n (lv' := [(1, .int (nI 31)), (0, .int (nI u))]) hx hb dJ6_numberOfLeadingZeros_0f7a4_17 rfl hl (by decide) rfl (fun ls hl => ?_)
  suffices hj18 : ∀ (k : Nat) (ls : Array Slot), k ≤ 0 → 1 ≤ u / 2 ^ k → u / 2 ^ k < 2 ^ 31 → lv_has ls 2 [(0, .int (nI (u / 2 ^ k))), (1, .int (nI (31 - k)))] → W p l e (headSpec wsJ6_numberOfLeadingZeros_0f7a4 ({ frames := 0, cells := 0, slots := 0, locals := 0 })).room s m [.int (nI u)].toArray below meth c s.heap [] 0 0 (MQ below (va_Qi (fun r u2 => r = nI (31 - Nat.log2 u) ∧ u2 = (E, z0)) (bd_B K) (bd_A K sz)) [.int (nI u)].toArray s 0 0 (bd_A K sz)) (F0 m 18 ls []) from hj18 0 ls (by decide) (by rw [Nat.pow_zero, Nat.div_one]; exact h0) (by rw [Nat.pow_zero, Nat.div_one]; exact hu) (by rw [Nat.pow_zero, Nat.div_one]; exact lv_sub hl [1, 0] rfl)
  intro k ls hk0 hge hlt hl
  suffices hj33 : ∀ (k : Nat) (ls : Array Slot), k ≤ 16 → 1 ≤ u / 2 ^ k → u / 2 ^ k < 65536 → lv_has ls 2 [(0, .int (nI (u / 2 ^ k))), (1, .int (nI (31 - k)))] → W p l e (headSpec wsJ6_numberOfLeadingZeros_0f7a4 ({ frames := 0, cells := 0, slots := 0, locals := 0 })).room s m [.int (nI u)].toArray below meth c s.heap [] 0 0 (MQ below (va_Qi (fun r u2 => r = nI (31 - Nat.log2 u) ∧ u2 = (E, z0)) (bd_B K) (bd_A K sz)) [.int (nI u)].toArray s 0 0 (bd_A K sz)) (F0 m 33 ls []) by
    refine lv_iload_n hx hb dJ6_numberOfLeadingZeros_0f7a4_18 rfl (lv_at hl 0 rfl) ?_
    refine lv_ldcw (v := nI 65536) hx hb hown (hts (.constant RJ6 264 (65536)) (by decide +kernel)) dJ6_numberOfLeadingZeros_0f7a4_19 ?_
    refine bd_ilt (h1 := (by omega)) (h2 := (by decide)) (tgt := 33) hx hb dJ6_numberOfLeadingZeros_0f7a4_22 (by decide) (fun hc => hj33 k ls (by omega) hge hc hl) (fun hc => ?_)
    refine lv_iinc (v := nI (31 - (k + 16))) (lv' := [(1, .int (nI (31 - (k + 16)))), (0, .int (nI (u / 2 ^ k)))]) hx hb dJ6_numberOfLeadingZeros_0f7a4_25 hl (k := 1) rfl (by rw [show 31 - k = (31 - (k + 16)) + 16 by omega, ← nI_add]; show nI _ + nI 16 + Int32.ofInt (-16) = _; rw [Int32.add_assoc, show nI 16 + Int32.ofInt (-16) = 0 by decide +kernel, Int32.add_zero]) (by decide) rfl (fun ls hl => ?_)
    refine lv_iload_n hx hb dJ6_numberOfLeadingZeros_0f7a4_28 rfl (lv_at hl 1 rfl) ?_
    refine lv_bipush (v := nI 16) hx hb dJ6_numberOfLeadingZeros_0f7a4_29 (by decide) ?_
    refine bd_iushr (v := nI (u / 2 ^ (k + 16))) hx hb dJ6_numberOfLeadingZeros_0f7a4_31 (by rw [pk_ushrN (by omega) (nI 16) 16 (by decide +kernel), Nat.div_div_eq_div_mul, ← Nat.pow_add]) ?_
    refine lv_istore_n (lv' := [(0, .int (nI (u / 2 ^ (k + 16)))), (1, .int (nI (31 - (k + 16))))]) hx hb dJ6_numberOfLeadingZeros_0f7a4_32 rfl hl (by decide) rfl (fun ls hl => ?_)
    have hdd : u / 2 ^ (k + 16) = u / 2 ^ k / 65536 := by rw [Nat.pow_add, ← Nat.div_div_eq_div_mul]
    exact hj33 (k + 16) ls (by omega) (by omega) (by omega) hl
  intro k ls hk0 hge hlt hl
  suffices hj48 : ∀ (k : Nat) (ls : Array Slot), k ≤ 24 → 1 ≤ u / 2 ^ k → u / 2 ^ k < 256 → lv_has ls 2 [(0, .int (nI (u / 2 ^ k))), (1, .int (nI (31 - k)))] → W p l e (headSpec wsJ6_numberOfLeadingZeros_0f7a4 ({ frames := 0, cells := 0, slots := 0, locals := 0 })).room s m [.int (nI u)].toArray below meth c s.heap [] 0 0 (MQ below (va_Qi (fun r u2 => r = nI (31 - Nat.log2 u) ∧ u2 = (E, z0)) (bd_B K) (bd_A K sz)) [.int (nI u)].toArray s 0 0 (bd_A K sz)) (F0 m 48 ls []) by
    refine lv_iload_n hx hb dJ6_numberOfLeadingZeros_0f7a4_33 rfl (lv_at hl 0 rfl) ?_
    refine lv_sipush (v := nI 256) hx hb dJ6_numberOfLeadingZeros_0f7a4_34 (by decide) ?_
    refine bd_ilt (h1 := (by omega)) (h2 := (by decide)) (tgt := 48) hx hb dJ6_numberOfLeadingZeros_0f7a4_37 (by decide) (fun hc => hj48 k ls (by omega) hge hc hl) (fun hc => ?_)
    refine lv_iinc (v := nI (31 - (k + 8))) (lv' := [(1, .int (nI (31 - (k + 8)))), (0, .int (nI (u / 2 ^ k)))]) hx hb dJ6_numberOfLeadingZeros_0f7a4_40 hl (k := 1) rfl (by rw [show 31 - k = (31 - (k + 8)) + 8 by omega, ← nI_add]; show nI _ + nI 8 + Int32.ofInt (-8) = _; rw [Int32.add_assoc, show nI 8 + Int32.ofInt (-8) = 0 by decide +kernel, Int32.add_zero]) (by decide) rfl (fun ls hl => ?_)
    refine lv_iload_n hx hb dJ6_numberOfLeadingZeros_0f7a4_43 rfl (lv_at hl 1 rfl) ?_
    refine lv_bipush (v := nI 8) hx hb dJ6_numberOfLeadingZeros_0f7a4_44 (by decide) ?_
    refine bd_iushr (v := nI (u / 2 ^ (k + 8))) hx hb dJ6_numberOfLeadingZeros_0f7a4_46 (by rw [pk_ushrN (by omega) (nI 8) 8 (by decide +kernel), Nat.div_div_eq_div_mul, ← Nat.pow_add]) ?_
    refine lv_istore_n (lv' := [(0, .int (nI (u / 2 ^ (k + 8)))), (1, .int (nI (31 - (k + 8))))]) hx hb dJ6_numberOfLeadingZeros_0f7a4_47 rfl hl (by decide) rfl (fun ls hl => ?_)
    have hdd : u / 2 ^ (k + 8) = u / 2 ^ k / 256 := by rw [Nat.pow_add, ← Nat.div_div_eq_div_mul]
    exact hj48 (k + 8) ls (by omega) (by omega) (by omega) hl
  intro k ls hk0 hge hlt hl
  suffices hj61 : ∀ (k : Nat) (ls : Array Slot), k ≤ 28 → 1 ≤ u / 2 ^ k → u / 2 ^ k < 16 → lv_has ls 2 [(0, .int (nI (u / 2 ^ k))), (1, .int (nI (31 - k)))] → W p l e (headSpec wsJ6_numberOfLeadingZeros_0f7a4 ({ frames := 0, cells := 0, slots := 0, locals := 0 })).room s m [.int (nI u)].toArray below meth c s.heap [] 0 0 (MQ below (va_Qi (fun r u2 => r = nI (31 - Nat.log2 u) ∧ u2 = (E, z0)) (bd_B K) (bd_A K sz)) [.int (nI u)].toArray s 0 0 (bd_A K sz)) (F0 m 61 ls []) by
    refine lv_iload_n hx hb dJ6_numberOfLeadingZeros_0f7a4_48 rfl (lv_at hl 0 rfl) ?_
    refine lv_bipush (v := nI 16) hx hb dJ6_numberOfLeadingZeros_0f7a4_49 (by decide) ?_
    refine bd_ilt (h1 := (by omega)) (h2 := (by decide)) (tgt := 61) hx hb dJ6_numberOfLeadingZeros_0f7a4_51 (by decide) (fun hc => hj61 k ls (by omega) hge hc hl) (fun hc => ?_)
    refine lv_iinc (v := nI (31 - (k + 4))) (lv' := [(1, .int (nI (31 - (k + 4)))), (0, .int (nI (u / 2 ^ k)))]) hx hb dJ6_numberOfLeadingZeros_0f7a4_54 hl (k := 1) rfl (by rw [show 31 - k = (31 - (k + 4)) + 4 by omega, ← nI_add]; show nI _ + nI 4 + Int32.ofInt (-4) = _; rw [Int32.add_assoc, show nI 4 + Int32.ofInt (-4) = 0 by decide +kernel, Int32.add_zero]) (by decide) rfl (fun ls hl => ?_)
    refine lv_iload_n hx hb dJ6_numberOfLeadingZeros_0f7a4_57 rfl (lv_at hl 1 rfl) ?_
    refine lv_iconst (v := nI 4) hx hb dJ6_numberOfLeadingZeros_0f7a4_58 (by decide) ?_
    refine bd_iushr (v := nI (u / 2 ^ (k + 4))) hx hb dJ6_numberOfLeadingZeros_0f7a4_59 (by rw [pk_ushrN (by omega) (nI 4) 4 (by decide +kernel), Nat.div_div_eq_div_mul, ← Nat.pow_add]) ?_
    refine lv_istore_n (lv' := [(0, .int (nI (u / 2 ^ (k + 4)))), (1, .int (nI (31 - (k + 4))))]) hx hb dJ6_numberOfLeadingZeros_0f7a4_60 rfl hl (by decide) rfl (fun ls hl => ?_)
    have hdd : u / 2 ^ (k + 4) = u / 2 ^ k / 16 := by rw [Nat.pow_add, ← Nat.div_div_eq_div_mul]
    exact hj61 (k + 4) ls (by omega) (by omega) (by omega) hl
  intro k ls hk0 hge hlt hl
  suffices hj73 : ∀ (k : Nat) (ls : Array Slot), k ≤ 30 → 1 ≤ u / 2 ^ k → u / 2 ^ k < 4 → lv_has ls 2 [(0, .int (nI (u / 2 ^ k))), (1, .int (nI (31 - k)))] → W p l e (headSpec wsJ6_numberOfLeadingZeros_0f7a4 ({ frames := 0, cells := 0, slots := 0, locals := 0 })).room s m [.int (nI u)].toArray below meth c s.heap [] 0 0 (MQ below (va_Qi (fun r u2 => r = nI (31 - Nat.log2 u) ∧ u2 = (E, z0)) (bd_B K) (bd_A K sz)) [.int (nI u)].toArray s 0 0 (bd_A K sz)) (F0 m 73 ls []) by
    refine lv_iload_n hx hb dJ6_numberOfLeadingZeros_0f7a4_61 rfl (lv_at hl 0 rfl) ?_
    refine lv_iconst (v := nI 4) hx hb dJ6_numberOfLeadingZeros_0f7a4_62 (by decide) ?_
    refine bd_ilt (h1 := (by omega)) (h2 := (by decide)) (tgt := 73) hx hb dJ6_numberOfLeadingZeros_0f7a4_63 (by decide) (fun hc => hj73 k ls (by omega) hge hc hl) (fun hc => ?_)
    refine lv_iinc (v := nI (31 - (k + 2))) (lv' := [(1, .int (nI (31 - (k + 2)))), (0, .int (nI (u / 2 ^ k)))]) hx hb dJ6_numberOfLeadingZeros_0f7a4_66 hl (k := 1) rfl (by rw [show 31 - k = (31 - (k + 2)) + 2 by omega, ← nI_add]; show nI _ + nI 2 + Int32.ofInt (-2) = _; rw [Int32.add_assoc, show nI 2 + Int32.ofInt (-2) = 0 by decide +kernel, Int32.add_zero]) (by decide) rfl (fun ls hl => ?_)
    refine lv_iload_n hx hb dJ6_numberOfLeadingZeros_0f7a4_69 rfl (lv_at hl 1 rfl) ?_
    refine lv_iconst (v := nI 2) hx hb dJ6_numberOfLeadingZeros_0f7a4_70 (by decide) ?_
    refine bd_iushr (v := nI (u / 2 ^ (k + 2))) hx hb dJ6_numberOfLeadingZeros_0f7a4_71 (by rw [pk_ushrN (by omega) (nI 2) 2 (by decide +kernel), Nat.div_div_eq_div_mul, ← Nat.pow_add]) ?_
    refine lv_istore_n (lv' := [(0, .int (nI (u / 2 ^ (k + 2)))), (1, .int (nI (31 - (k + 2))))]) hx hb dJ6_numberOfLeadingZeros_0f7a4_72 rfl hl (by decide) rfl (fun ls hl => ?_)
    have hdd : u / 2 ^ (k + 2) = u / 2 ^ k / 4 := by rw [Nat.pow_add, ← Nat.div_div_eq_div_mul]
    exact hj73 (k + 2) ls (by omega) (by omega) (by omega) hl
  intro k ls hk0 hge hlt hl
  refine lv_iload_n hx hb dJ6_numberOfLeadingZeros_0f7a4_73 rfl (lv_at hl 1 rfl) ?_
  refine lv_iload_n hx hb dJ6_numberOfLeadingZeros_0f7a4_74 rfl (lv_at hl 0 rfl) ?_
  refine lv_iconst (v := nI 1) hx hb dJ6_numberOfLeadingZeros_0f7a4_75 (by decide) ?_
  refine bd_iushr (v := nI (u / 2 ^ k / 2)) hx hb dJ6_numberOfLeadingZeros_0f7a4_76 (by rw [pk_ushrN (by omega) (nI 1) 1 (by decide +kernel)]) ?_
  refine bd_isub (v := nI (31 - Nat.log2 u)) hx hb dJ6_numberOfLeadingZeros_0f7a4_77 (by rw [q_log rfl hge hlt, pk_sub (by omega)]; congr 1; omega) ?_
  exact bd_iret C hr hlk hw dJ6_numberOfLeadingZeros_0f7a4_78 ⟨rfl, rfl⟩
set_option maxHeartbeats 4000000 in
set_option maxRecDepth 100000 in
/-- Integer.numberOfLeadingZeros, below 0 -/
theorem cJ_nlzH (l : Launch) (K : Cxt) (E : Nat → va_E) (z0 : Nat → Wh) (sz h : Nat) (x : Int32) (hn : x < 0) : Met l yJ6_numberOfLeadingZeros_0f7a4 wsJ6_numberOfLeadingZeros_0f7a4 ({ frames := 0, cells := 0, slots := 0, locals := 0 }) (va_Pc [.int x] (bd_P K E z0 sz)) (va_Qi (fun r u2 => r = nI 0 ∧ u2 = (E, z0)) (bd_B K) (bd_A K sz)) 0 0 (bd_A K sz) := by
  refine bd_ofW (cc := cJ6_numberOfLeadingZeros_0f7a4) (maxL := 2) (ret := (some .int)) (by decide) rfl (Nat.le_of_ble_eq_true rfl) ?_
  intro p e s m below meth c ls C hr hlk hsz hw hl
  have hx := C.1
  have hb := C.2.1
  have hown := C.2.2.2.1
  have hts := C.2.2.2.2.1
  have ho : ∀ b, b ≠ h → z0 b = z0 b := fun _ _ => rfl
  have hl : lv_has ls 2 [(0, .int x)] := hl
  refine lv_iload_n hx hb dJ6_numberOfLeadingZeros_0f7a4_0 rfl (lv_at hl 0 rfl) ?_
  refine lv_if_gt (tgt := 15) hx hb dJ6_numberOfLeadingZeros_0f7a4_1 (by decide) (fun hc => absurd (Int32.lt_trans hc hn) (Int32.lt_irrefl)) (fun _ => ?_)
  refine lv_iload_n hx hb dJ6_numberOfLeadingZeros_0f7a4_4 rfl (lv_at hl 0 rfl) ?_
  refine lv_if_ne (tgt := 13) hx hb dJ6_numberOfLeadingZeros_0f7a4_5 (by decide) (fun _ => ?_) (fun hc => absurd hn (by rw [hc]; decide +kernel))
  refine lv_iconst (v := nI 0) hx hb dJ6_numberOfLeadingZeros_0f7a4_13 (by decide) ?_
  exact bd_iret C hr hlk hw dJ6_numberOfLeadingZeros_0f7a4_14 ⟨rfl, rfl⟩
