/-! Whole: hasBitsBelow, lower (laid by wip/gen/m_whole13.py) -/
set_option maxHeartbeats 4000000 in
set_option maxRecDepth 100000 in
/-- Whole.hasBitsBelow(t) -/
theorem c3_hasBitsBelow (l : Launch) (K : Cxt) (E : Nat → va_E) (z0 : Nat → Wh) (sz h : Nat) (t : Nat) (hh : h ∈ bd_N K) {n : Nat} {g : Int32} {f : Nat → Nat} (hz : z0 h = (n, g, f)) (h24 : n ≤ 24) (hf : q_r f) (ht : t < 1000) : Met l yX3_hasBitsBelow wsX3_hasBitsBelow ({ frames := 0, cells := 0, slots := 0, locals := 0 }) (va_Pc [.ref h, .int (nI t)] (bd_P K E z0 sz)) (va_Qi (fun r u => r = nI (if q_s f n % 2 ^ t = 0 then 0 else 1) ∧ u = (E, z0)) (bd_B K) (bd_A K sz)) 0 0 (bd_A K sz) := by
  refine bd_ofW (cc := cX3_hasBitsBelow) (maxL := 4) (ret := (some .boolean)) (by decide) rfl (Nat.le_of_ble_eq_true rfl) ?_
  intro p e s m below meth c ls C hr hlk hsz hw hl
  have hx := C.1
  have hb := C.2.1
  have hown := C.2.2.2.1
  have hts := C.2.2.2.2.1
  have i3 : ∀ w ∈ wsX30, w ∈ wsX3_hasBitsBelow := by decide +kernel
  have lk17 : Cond.fieldLink RX3 17 "BallDesk$Whole" "size" "I" ∈ wsX3_hasBitsBelow := by decide +kernel
  have lk9 : Cond.fieldLink RX3 9 "BallDesk$Whole" "row" "[J" ∈ wsX3_hasBitsBelow := by decide +kernel
  have ho : ∀ b, b ≠ h → z0 b = z0 b := fun _ _ => rfl
  have hl : lv_has ls 4 [(0, .ref h), (1, .int (nI t))] := hl
  have hfo := q_r_ok hf h24
  refine lv_iload_n hx hb dX3_hasBitsBelow_0 rfl (lv_at hl 1 rfl) ?_
  refine lv_bipush (v := nI 32) hx hb dX3_hasBitsBelow_1 (by decide) ?_
  refine bd_idiv (v := (nI (t / 32))) hx hb dX3_hasBitsBelow_3 (by decide +kernel) (pk_div (by omega) (by decide) (by decide)) ?_
  refine lv_istore_n (lv' := [(2, .int (nI (t / 32))), (0, .ref h), (1, .int (nI t))]) hx hb dX3_hasBitsBelow_4 rfl hl (by decide) rfl (fun ls hl => ?_)
  refine lv_iconst (v := nI 0) hx hb dX3_hasBitsBelow_5 (by decide) ?_
  refine lv_istore_n (lv' := [(3, .int (nI 0)), (2, .int (nI (t / 32))), (0, .ref h), (1, .int (nI t))]) hx hb dX3_hasBitsBelow_6 rfl hl (by decide) rfl (fun ls hl => ?_)
  suffices hloop : ∀ (d i : Nat) (ls : Array Slot) (H : Heap) (locs : List Loc), i + d = t / 32 → (∀ j, j < i → f j = 0) → lv_has ls 4 [(3, .int (nI i)), (2, .int (nI (t / 32))), (0, .ref h), (1, .int (nI t))] → bd_W K E z0 (bd_A K sz) s.heap H locs → W p l e (headSpec wsX3_hasBitsBelow ({ frames := 0, cells := 0, slots := 0, locals := 0 })).room s m [.ref h, .int (nI t)].toArray below meth c H locs 0 0 (MQ below (va_Qi (fun r u => r = nI (if q_s f n % 2 ^ t = 0 then 0 else 1) ∧ u = (E, z0)) (bd_B K) (bd_A K sz)) [.ref h, .int (nI t)].toArray s 0 0 (bd_A K sz)) (F0 m 7 ls []) from hloop (t / 32) 0 ls _ _ (by omega) (fun j hj => absurd hj (by omega)) (lv_sub hl [0, 1, 2, 3] rfl) hw
  clear hw hl ls
  intro d
  induction d using Nat.strongRecOn with
  | ind d ih =>
    intro i ls H locs hid h0 hl hw
    refine lv_iload_n hx hb dX3_hasBitsBelow_7 rfl (lv_at hl 0 rfl) ?_
    refine lv_iload_n hx hb dX3_hasBitsBelow_8 rfl (lv_at hl 1 rfl) ?_
    refine bd_ige (h1 := (by omega)) (h2 := (by omega)) (tgt := 39) hx hb dX3_hasBitsBelow_9 (by decide) (fun hc9 => ?_) (fun hc9 => ?_)
    · have hi : i = t / 32 := by omega
      have hall : ∀ j, j < t / 32 → j < n → f j = 0 := fun j h1 _ => h0 j (by omega)
      refine lv_iload_n hx hb dX3_hasBitsBelow_39 rfl (lv_at hl 1 rfl) ?_
      refine lv_aload_n hx hb dX3_hasBitsBelow_40 rfl (lv_at hl 2 rfl) ?_
      refine bd_gsz C i3 hw hh hz dX3_hasBitsBelow_41 lk17 ?_
      refine bd_ige (h1 := (by omega)) (h2 := (by omega)) (tgt := 71) hx hb dX3_hasBitsBelow_44 (by decide) (fun hc44 => ?_) (fun hc44 => ?_)
      · refine lv_iconst (v := nI 0) hx hb dX3_hasBitsBelow_71 (by decide) ?_
        have hz1 : q_s f n % 2 ^ t = 0 := by
          rw [q_hb2 hfo hc44]
          exact q_zz (fun j hj => hall j (by omega) hj)
        exact bd_zret C hr hlk hw dX3_hasBitsBelow_72 (Or.inl rfl) ⟨by rw [if_pos hz1], rfl⟩
      · refine lv_aload_n hx hb dX3_hasBitsBelow_47 rfl (lv_at hl 2 rfl) ?_
        refine bd_grw C i3 hw hh hz dX3_hasBitsBelow_48 lk9 ?_
        refine lv_iload_n hx hb dX3_hasBitsBelow_51 rfl (lv_at hl 1 rfl) ?_
        refine bd_ald C hw hh hz dX3_hasBitsBelow_52 (by omega) ?_
        refine lv_lconst (v := lN 1) hx hb dX3_hasBitsBelow_53 rfl ?_
        refine lv_iload_n hx hb dX3_hasBitsBelow_54 rfl (lv_at hl 3 rfl) ?_
        refine lv_bipush (v := nI 32) hx hb dX3_hasBitsBelow_55 (by decide) ?_
        refine bd_irem (v := (nI (t % 32))) hx hb dX3_hasBitsBelow_57 (by decide +kernel) (pk_rem (by omega) (by decide) (by decide)) ?_
        refine bd_lshl (v := (lN (2 ^ (t % 32)))) hx hb dX3_hasBitsBelow_58 ((wb_shl 1 (by omega)).trans (congrArg lN (Nat.one_mul _))) ?_
        refine lv_lconst (v := lN 1) hx hb dX3_hasBitsBelow_59 rfl ?_
        refine bd_lsub (v := (lN (2 ^ (t % 32) - 1))) hx hb dX3_hasBitsBelow_60 (lN_sub (Nat.pow_pos (by decide))) ?_
        refine bd_land (v := (lN (f (t / 32) % 2 ^ (t % 32)))) hx hb dX3_hasBitsBelow_61 (wb_mask (Nat.lt_trans (hf _ (by omega)) (by decide)) (by omega)) ?_
        refine lv_lconst (v := lN 0) hx hb dX3_hasBitsBelow_62 rfl ?_
        refine bd_leq (h1 := (Nat.lt_of_le_of_lt (Nat.mod_le _ _) (q_r63 hf (by omega)))) (h2 := (by decide)) (tgt := 71) hx hb dX3_hasBitsBelow_63 dX3_hasBitsBelow_64 (by decide) (fun hc63 => ?_) (fun hc63 => ?_)
        · refine lv_iconst (v := nI 0) hx hb dX3_hasBitsBelow_71 (by decide) ?_
          have hz1 : q_s f n % 2 ^ t = 0 := by
            rw [q_hb1 hfo hc44, hc63, Nat.mul_zero, Nat.add_zero]
            exact q_zz (fun j hj => hall j hj (by omega))
          exact bd_zret C hr hlk hw dX3_hasBitsBelow_72 (Or.inl rfl) ⟨by rw [if_pos hz1], rfl⟩
        · refine lv_iconst (v := nI 1) hx hb dX3_hasBitsBelow_67 (by decide) ?_
          refine lv_goto (tgt := 72) hx hb dX3_hasBitsBelow_68 (by decide) ?_
          have hnz : q_s f n % 2 ^ t ≠ 0 := by
            rw [q_hb1 hfo hc44]
            have h1 := Nat.mul_pos (q_pos (t / 32)) (Nat.pos_of_ne_zero hc63)
            omega
          exact bd_zret C hr hlk hw dX3_hasBitsBelow_72 (Or.inr rfl) ⟨by rw [if_neg hnz], rfl⟩
    · refine lv_iload_n hx hb dX3_hasBitsBelow_12 rfl (lv_at hl 0 rfl) ?_
      refine lv_aload_n hx hb dX3_hasBitsBelow_13 rfl (lv_at hl 2 rfl) ?_
      refine bd_gsz C i3 hw hh hz dX3_hasBitsBelow_14 lk17 ?_
      refine bd_ige (h1 := (by omega)) (h2 := (by omega)) (tgt := 39) hx hb dX3_hasBitsBelow_17 (by decide) (fun hc17 => ?_) (fun hc17 => ?_)
      · have hall : ∀ j, j < t / 32 → j < n → f j = 0 := fun j _ h2 => h0 j (by omega)
        refine lv_iload_n hx hb dX3_hasBitsBelow_39 rfl (lv_at hl 1 rfl) ?_
        refine lv_aload_n hx hb dX3_hasBitsBelow_40 rfl (lv_at hl 2 rfl) ?_
        refine bd_gsz C i3 hw hh hz dX3_hasBitsBelow_41 lk17 ?_
        refine bd_ige (h1 := (by omega)) (h2 := (by omega)) (tgt := 71) hx hb dX3_hasBitsBelow_44 (by decide) (fun hc44 => ?_) (fun hc44 => ?_)
        · refine lv_iconst (v := nI 0) hx hb dX3_hasBitsBelow_71 (by decide) ?_
          have hz1 : q_s f n % 2 ^ t = 0 := by
            rw [q_hb2 hfo hc44]
            exact q_zz (fun j hj => hall j (by omega) hj)
          exact bd_zret C hr hlk hw dX3_hasBitsBelow_72 (Or.inl rfl) ⟨by rw [if_pos hz1], rfl⟩
        · refine lv_aload_n hx hb dX3_hasBitsBelow_47 rfl (lv_at hl 2 rfl) ?_
          refine bd_grw C i3 hw hh hz dX3_hasBitsBelow_48 lk9 ?_
          refine lv_iload_n hx hb dX3_hasBitsBelow_51 rfl (lv_at hl 1 rfl) ?_
          refine bd_ald C hw hh hz dX3_hasBitsBelow_52 (by omega) ?_
          refine lv_lconst (v := lN 1) hx hb dX3_hasBitsBelow_53 rfl ?_
          refine lv_iload_n hx hb dX3_hasBitsBelow_54 rfl (lv_at hl 3 rfl) ?_
          refine lv_bipush (v := nI 32) hx hb dX3_hasBitsBelow_55 (by decide) ?_
          refine bd_irem (v := (nI (t % 32))) hx hb dX3_hasBitsBelow_57 (by decide +kernel) (pk_rem (by omega) (by decide) (by decide)) ?_
          refine bd_lshl (v := (lN (2 ^ (t % 32)))) hx hb dX3_hasBitsBelow_58 ((wb_shl 1 (by omega)).trans (congrArg lN (Nat.one_mul _))) ?_
          refine lv_lconst (v := lN 1) hx hb dX3_hasBitsBelow_59 rfl ?_
          refine bd_lsub (v := (lN (2 ^ (t % 32) - 1))) hx hb dX3_hasBitsBelow_60 (lN_sub (Nat.pow_pos (by decide))) ?_
          refine bd_land (v := (lN (f (t / 32) % 2 ^ (t % 32)))) hx hb dX3_hasBitsBelow_61 (wb_mask (Nat.lt_trans (hf _ (by omega)) (by decide)) (by omega)) ?_
          refine lv_lconst (v := lN 0) hx hb dX3_hasBitsBelow_62 rfl ?_
          refine bd_leq (h1 := (Nat.lt_of_le_of_lt (Nat.mod_le _ _) (q_r63 hf (by omega)))) (h2 := (by decide)) (tgt := 71) hx hb dX3_hasBitsBelow_63 dX3_hasBitsBelow_64 (by decide) (fun hc63 => ?_) (fun hc63 => ?_)
          · refine lv_iconst (v := nI 0) hx hb dX3_hasBitsBelow_71 (by decide) ?_
            have hz1 : q_s f n % 2 ^ t = 0 := by
              rw [q_hb1 hfo hc44, hc63, Nat.mul_zero, Nat.add_zero]
              exact q_zz (fun j hj => hall j hj (by omega))
            exact bd_zret C hr hlk hw dX3_hasBitsBelow_72 (Or.inl rfl) ⟨by rw [if_pos hz1], rfl⟩
          · refine lv_iconst (v := nI 1) hx hb dX3_hasBitsBelow_67 (by decide) ?_
            refine lv_goto (tgt := 72) hx hb dX3_hasBitsBelow_68 (by decide) ?_
            have hnz : q_s f n % 2 ^ t ≠ 0 := by
              rw [q_hb1 hfo hc44]
              have h1 := Nat.mul_pos (q_pos (t / 32)) (Nat.pos_of_ne_zero hc63)
              omega
            exact bd_zret C hr hlk hw dX3_hasBitsBelow_72 (Or.inr rfl) ⟨by rw [if_neg hnz], rfl⟩
      · refine lv_aload_n hx hb dX3_hasBitsBelow_20 rfl (lv_at hl 2 rfl) ?_
        refine bd_grw C i3 hw hh hz dX3_hasBitsBelow_21 lk9 ?_
        refine lv_iload_n hx hb dX3_hasBitsBelow_24 rfl (lv_at hl 0 rfl) ?_
        refine bd_ald C hw hh hz dX3_hasBitsBelow_25 (by omega) ?_
        refine lv_lconst (v := lN 0) hx hb dX3_hasBitsBelow_26 rfl ?_
        refine bd_leq (h1 := (q_r63 hf (by omega))) (h2 := (by decide)) (tgt := 33) hx hb dX3_hasBitsBelow_27 dX3_hasBitsBelow_28 (by decide) (fun hc27 => ?_) (fun hc27 => ?_)
        · refine lv_iinc (v := (nI (i + 1))) (lv' := [(3, .int (nI (i + 1))), (2, .int (nI (t / 32))), (0, .ref h), (1, .int (nI t))]) hx hb dX3_hasBitsBelow_33 hl (k := 0) rfl (nI_1 _) (by decide) rfl (fun ls hl => ?_)
          refine lv_goto (tgt := 7) hx hb dX3_hasBitsBelow_36 (by decide) ?_
          exact ih (d - 1) (by omega) (i + 1) ls H locs (by omega) (fun j hj => if q : j = i then by rw [q]; exact hc27 else h0 j (by omega)) (lv_sub hl [0, 1, 2, 3] rfl) hw
        · refine lv_iconst (v := nI 1) hx hb dX3_hasBitsBelow_31 (by decide) ?_
          have hnz : q_s f n % 2 ^ t ≠ 0 := by
            rcases Nat.lt_or_ge (t / 32) n with q | q
            · rw [q_hb1 hfo q]
              have h1 := q_nz (f := f) hc9 hc27
              omega
            · rw [q_hb2 hfo q]
              have h1 := q_nz (f := f) hc17 hc27
              omega
          exact bd_zret C hr hlk hw dX3_hasBitsBelow_32 (Or.inr rfl) ⟨by rw [if_neg hnz], rfl⟩
set_option maxHeartbeats 4000000 in
set_option maxRecDepth 100000 in
/-- Whole.lower(t), rounded down -/
theorem c3_lower (l : Launch) (K : Cxt) (E : Nat → va_E) (z0 : Nat → Wh) (sz h : Nat) (t : Nat) (hh : h ∈ bd_N K) {n : Nat} {g : Int32} {f : Nat → Nat} (hz : z0 h = (n, g, f)) {v : Int} (hv : bd_n (n, g, f) v) (ht0 : 0 < t) (ht : t < 1000) : Met l yX3_lower wsX3_lower ({ frames := 1, cells := 0, slots := 0, locals := 40 }) (va_Pc [.ref h, .int (nI t)] (bd_P K E z0 sz)) (va_Qv (fun u => u.1 = E ∧ bd_n (u.2 h) (v / ((2 ^ t : Nat) : Int)) ∧ ∀ b, b ≠ h → u.2 b = z0 b) (bd_B K) (bd_A K sz)) 0 0 (bd_A K sz) := by
  refine bd_ofW (cc := cX3_lower) (maxL := 9) (ret := none) (by decide) rfl (Nat.le_of_ble_eq_true rfl) ?_
  intro p e s m below meth c ls C hr hlk hsz hw hl
  have hx := C.1
  have hb := C.2.1
  have hown := C.2.2.2.1
  have hts := C.2.2.2.2.1
  have i3 : ∀ w ∈ wsX30, w ∈ wsX3_lower := by decide +kernel
  have lk13 : Cond.fieldLink RX3 13 "BallDesk$Whole" "sign" "I" ∈ wsX3_lower := by decide +kernel
  have lk17 : Cond.fieldLink RX3 17 "BallDesk$Whole" "size" "I" ∈ wsX3_lower := by decide +kernel
  have lk9 : Cond.fieldLink RX3 9 "BallDesk$Whole" "row" "[J" ∈ wsX3_lower := by decide +kernel
  have lk30 : Cond.constantLong RX3 30 (4294967295) ∈ wsX3_lower := by decide +kernel
  have ho : ∀ b, b ≠ h → z0 b = z0 b := fun _ _ => rfl
  have hl : lv_has ls 9 [(0, .ref h), (1, .int (nI t))] := hl
  have okm := bd_ok_m hv.1
  have hma := bd_n_m hv
  have hsg := bd_n_sg hv
  obtain ⟨h24, hf, htp⟩ := bd_ok_sz hv.1
  have hfo := q_r_ok hf h24
  have hm24 : q_s f n < 4294967296 ^ 24 := Nat.lt_of_lt_of_le (q_lt hfo) (Nat.pow_le_pow_right (by decide) h24)
  have hdv := q_dvp (t := t) hfo
  have hp2 : 0 < 2 ^ t := Nat.pow_pos (by decide)
  have hdm := Nat.div_add_mod (q_s f n) (2 ^ t)
  have hml := Nat.mod_lt (q_s f n) hp2
  refine lv_iload_n hx hb dX3_lower_0 rfl (lv_at hl 1 rfl) ?_
  refine bd_zgt (h1 := (by omega)) (tgt := 5) hx hb dX3_lower_1 (by decide) (fun hc1 => ?_) (fun hc1 => ?_)
  · refine lv_iload_n hx hb dX3_lower_5 rfl (lv_at hl 1 rfl) ?_
    refine lv_bipush (v := nI 32) hx hb dX3_lower_6 (by decide) ?_
    refine bd_idiv (v := (nI (t / 32))) hx hb dX3_lower_8 (by decide +kernel) (pk_div (by omega) (by decide) (by decide)) ?_
    refine lv_istore_n (lv' := [(2, .int (nI (t / 32))), (0, .ref h), (1, .int (nI t))]) hx hb dX3_lower_9 rfl hl (by decide) rfl (fun ls hl => ?_)
    refine lv_iload_n hx hb dX3_lower_10 rfl (lv_at hl 2 rfl) ?_
    refine lv_bipush (v := nI 32) hx hb dX3_lower_11 (by decide) ?_
    refine bd_irem (v := (nI (t % 32))) hx hb dX3_lower_13 (by decide +kernel) (pk_rem (by omega) (by decide) (by decide)) ?_
    refine lv_istore_n (lv' := [(3, .int (nI (t % 32))), (2, .int (nI (t / 32))), (0, .ref h), (1, .int (nI t))]) hx hb dX3_lower_14 rfl hl (by decide) rfl (fun ls hl => ?_)
    suffices hj35 : ∀ (H : Heap) (locs : List Loc), bd_W K E z0 (bd_A K sz) s.heap H locs → W p l e (headSpec wsX3_lower ({ frames := 1, cells := 0, slots := 0, locals := 40 })).room s m [.ref h, .int (nI t)].toArray below meth c H locs 0 0 (MQ below (va_Qv (fun u => u.1 = E ∧ bd_n (u.2 h) (v / ((2 ^ t : Nat) : Int)) ∧ ∀ b, b ≠ h → u.2 b = z0 b) (bd_B K) (bd_A K sz)) [.ref h, .int (nI t)].toArray s 0 0 (bd_A K sz)) (F0 m 35 ls [.int (nI (if g < 0 ∧ q_s f n % 2 ^ t ≠ 0 then 1 else 0))]) by
      refine lv_aload_n hx hb dX3_lower_15 rfl (lv_at hl 2 rfl) ?_
      refine bd_gsg C i3 hw hh hz dX3_lower_16 lk13 ?_
      refine lv_if_ge (tgt := 34) hx hb dX3_lower_19 (by decide) (fun hc19 => ?_) (fun hc19 => ?_)
      · refine lv_iconst (v := nI 0) hx hb dX3_lower_34 (by decide) ?_
        have h9 := hj35 _ _ hw
        rw [show (if g < 0 ∧ q_s f n % 2 ^ t ≠ 0 then 1 else 0) = 0 from if_neg (fun q => absurd q.1 (Int32.not_lt.mpr hc19))] at h9
        exact h9
      · refine lv_aload_n hx hb dX3_lower_22 rfl (lv_at hl 2 rfl) ?_
        refine lv_iload_n hx hb dX3_lower_23 rfl (lv_at hl 3 rfl) ?_
        refine bd_cip (As := [.int (nI t)]) (rest := []) C (c3_hasBitsBelow _ _ _ _ _ _ t hh hz h24 hf ht) (cwV 1 hts gX3_lower_X3_hasBitsBelow rfl rfl rfl (by decide +kernel) ⟨Nat.le_of_ble_eq_true rfl, Nat.le_of_ble_eq_true rfl⟩) hsz hw (bd_recv C hw hh) dX3_lower_24 rfl hl.1 rfl (Nat.le_of_ble_eq_true rfl) ⟨Nat.le_refl _, Nat.le_refl _⟩ (fun H locs hw => ?_)
        refine bd_zeq (h1 := by split <;> decide) (tgt := 34) hx hb dX3_lower_27 (by decide) (fun hq27 => ?_) (fun hq27 => ?_)
        · have hc27 : q_s f n % 2 ^ t = 0 := by
            rcases Decidable.em (q_s f n % 2 ^ t = 0) with q | q
            · exact q
            · rw [if_neg q] at hq27
              exact absurd hq27 (by decide)
          refine lv_iconst (v := nI 0) hx hb dX3_lower_34 (by decide) ?_
          have h9 := hj35 H locs hw
          rw [show (if g < 0 ∧ q_s f n % 2 ^ t ≠ 0 then 1 else 0) = 0 from if_neg (fun q => q.2 hc27)] at h9
          exact h9
        · have hc27 : q_s f n % 2 ^ t ≠ 0 := fun q => by
            rw [if_pos q] at hq27
            exact absurd hq27 (by decide)
          refine lv_iconst (v := nI 1) hx hb dX3_lower_30 (by decide) ?_
          refine lv_goto (tgt := 35) hx hb dX3_lower_31 (by decide) ?_
          have h9 := hj35 H locs hw
          rw [show (if g < 0 ∧ q_s f n % 2 ^ t ≠ 0 then 1 else 0) = 1 from if_pos ⟨Int32.not_le.mp hc19, hc27⟩] at h9
          exact h9
    clear hw
    intro H locs hw
    refine lv_istore (lv' := [(4, .int (nI (if g < 0 ∧ q_s f n % 2 ^ t ≠ 0 then 1 else 0))), (3, .int (nI (t % 32))), (2, .int (nI (t / 32))), (0, .ref h), (1, .int (nI t))]) hx hb dX3_lower_35 hl (by decide) rfl (fun ls hl => ?_)
    refine lv_iconst (v := nI 0) hx hb dX3_lower_37 (by decide) ?_
    refine lv_aload_n hx hb dX3_lower_38 rfl (lv_at hl 3 rfl) ?_
    refine bd_gsz C i3 hw hh hz dX3_lower_39 lk17 ?_
    refine lv_iload_n hx hb dX3_lower_42 rfl (lv_at hl 2 rfl) ?_
    refine bd_isub (v := (nI n - nI (t / 32))) hx hb dX3_lower_43 (rfl) ?_
    refine va_mmax hx hb (C.2.2.1.trans hl.1.symm) hown (hts (.methodLink RX3 78 Lib.Math.max.name) (by decide +kernel)) (hts (.static Lib.Math.max.name) (by decide +kernel)) (hts (.initialized "java/lang/Math") (by decide +kernel)) (hts (.code Lib.Math.max.name Lib.Math.max.code 2 (some .int)) (by decide +kernel)) (Nat.le_of_ble_eq_true rfl) (Nat.le_of_ble_eq_true rfl) (Nat.le_refl _) (Nat.le_refl _) dX3_lower_44 ?_
    rw [bd_maxs (by omega) (by omega)]
    refine lv_istore (lv' := [(5, .int (nI (n - t / 32))), (4, .int (nI (if g < 0 ∧ q_s f n % 2 ^ t ≠ 0 then 1 else 0))), (3, .int (nI (t % 32))), (2, .int (nI (t / 32))), (0, .ref h), (1, .int (nI t))]) hx hb dX3_lower_47 hl (by decide) rfl (fun ls hl => ?_)
    refine lv_iconst (v := nI 0) hx hb dX3_lower_49 (by decide) ?_
    refine lv_istore (lv' := [(6, .int (nI 0)), (5, .int (nI (n - t / 32))), (4, .int (nI (if g < 0 ∧ q_s f n % 2 ^ t ≠ 0 then 1 else 0))), (3, .int (nI (t % 32))), (2, .int (nI (t / 32))), (0, .ref h), (1, .int (nI t))]) hx hb dX3_lower_50 hl (by decide) rfl (fun ls hl => ?_)
    suffices hloop : ∀ (d i : Nat) (z : Nat → Wh) (ls : Array Slot) (H : Heap) (locs : List Loc) (fh : Nat → Nat), i + d = (n - t / 32) → z h = (n, g, fh) → q_r fh → (∀ j, j < i → fh j = (f (t / 32 + j) / 2 ^ (t % 32) + q_pd (n - t / 32) (fun j => f (t / 32 + j)) (j + 1) * 2 ^ (32 - t % 32)) % 4294967296) → (∀ j, i ≤ j → fh j = f j) → (∀ b, b ≠ h → z b = z0 b) → lv_has ls 9 [(6, .int (nI i)), (5, .int (nI (n - t / 32))), (4, .int (nI (if g < 0 ∧ q_s f n % 2 ^ t ≠ 0 then 1 else 0))), (3, .int (nI (t % 32))), (2, .int (nI (t / 32))), (0, .ref h), (1, .int (nI t))] → bd_W K E z (bd_A K sz) s.heap H locs → W p l e (headSpec wsX3_lower ({ frames := 1, cells := 0, slots := 0, locals := 40 })).room s m [.ref h, .int (nI t)].toArray below meth c H locs 0 0 (MQ below (va_Qv (fun u => u.1 = E ∧ bd_n (u.2 h) (v / ((2 ^ t : Nat) : Int)) ∧ ∀ b, b ≠ h → u.2 b = z0 b) (bd_B K) (bd_A K sz)) [.ref h, .int (nI t)].toArray s 0 0 (bd_A K sz)) (F0 m 52 ls []) from hloop (n - t / 32) 0 z0 ls _ _ f (by omega) hz hf (fun j hj => absurd hj (by omega)) (fun _ _ => rfl) ho (lv_sub hl [0, 1, 2, 3, 4, 5, 6] rfl) hw
    clear hw hl ls ho hz
    intro d
    induction d using Nat.strongRecOn with
    | ind d ih =>
      intro i z ls H locs fh hid hz hfh hlo hhi ho hl hw
      refine lv_iload hx hb dX3_lower_52 (lv_at hl 0 rfl) ?_
      refine lv_iload hx hb dX3_lower_54 (lv_at hl 1 rfl) ?_
      refine bd_ige (h1 := (by omega)) (h2 := (by omega)) (tgt := 121) hx hb dX3_lower_56 (by decide) (fun hc56 => ?_) (fun hc56 => ?_)
      · have hi : i = (n - t / 32) := by omega
        rw [hi] at hlo
        have hq : q_s fh (n - t / 32) = q_s f n / 2 ^ t := by
          rw [hdv]
          exact q_lower (by omega) _ (fun j => f (t / 32 + j)) fh (fun j hj => hf _ (by omega)) hlo
        have hQ : q_s fh (n - t / 32) ≤ q_s f n := by rw [hq]; exact Nat.div_le_self _ _
        refine lv_aload_n hx hb dX3_lower_121 rfl (lv_at hl 5 rfl) ?_
        refine lv_iload hx hb dX3_lower_122 (lv_at hl 1 rfl) ?_
        refine bd_cv (As := [.int (nI (n - t / 32))]) (rest := []) C (c3_trim _ _ _ _ _ _ (n - t / 32) hh hz (by omega) hfh) (cwV 1 hts gX3_lower_X3_trim rfl rfl rfl (by decide +kernel) ⟨Nat.le_of_ble_eq_true rfl, Nat.le_of_ble_eq_true rfl⟩) hsz hw (bd_recv C hw hh) dX3_lower_124 rfl hl.1 rfl (Nat.le_of_ble_eq_true rfl) ⟨Nat.le_refl _, Nat.le_refl _⟩ (fun E1 z H locs hp hw => ?_)
        obtain ⟨hE, hz2, hfr⟩ := hp
        rw [show E1 = E from hE] at hw
        have hz : z h = (q_tr fh (n - t / 32), (if q_tr fh (n - t / 32) = 0 then 0 else g), fh) := hz2
        have ho := bd_tr (z2 := z) hfr ho
        refine lv_iload hx hb dX3_lower_127 (lv_at hl 2 rfl) ?_
        refine bd_zeq (h1 := by split <;> decide) (tgt := 136) hx hb dX3_lower_129 (by decide) (fun hfl => ?_) (fun hfl => ?_)
        · have hg : ¬ (g < 0 ∧ q_s f n % 2 ^ t ≠ 0) := fun q => by
            rw [if_pos q] at hfl
            exact absurd hfl (by decide)
          have hfin : bd_n (z h) (v / ((2 ^ t : Nat) : Int)) := by
            rw [hz]
            rcases hsg with q | q | q
            · refine bd_fin hfh (by omega) (Or.inr (by omega)) ?_
              have h1 : q_s fh (n - t / 32) = 0 := by omega
              rw [h1, q.2]
              simp
            · refine bd_fin hfh (by omega) (Or.inl (Or.inl q.1)) ?_
              rw [q.1, i1, Int.one_mul, hq, ← fl_pos hdm.symm hml]
              congr 1
              omega
            · have h0 : q_s f n % 2 ^ t = 0 := by
                rcases Decidable.em (q_s f n % 2 ^ t = 0) with r | r
                · exact r
                · exact absurd ⟨by rw [q.1]; decide +kernel, r⟩ hg
              refine bd_fin hfh (by omega) (Or.inl (Or.inr q.1)) ?_
              rw [h0, Nat.add_zero] at hdm
              rw [q.1, im1, Int.neg_one_mul, hq, ← fl_neg0 hdm.symm hp2]
              congr 1
              omega
          exact bd_vret C hr hlk hw dX3_lower_136 ⟨rfl, hfin, ho⟩
        · have hg : g < 0 ∧ q_s f n % 2 ^ t ≠ 0 := by
            rcases Decidable.em (g < 0 ∧ q_s f n % 2 ^ t ≠ 0) with q | q
            · exact q
            · rw [if_neg q] at hfl
              exact absurd hfl (by decide)
          refine lv_aload_n hx hb dX3_lower_132 rfl (lv_at hl 5 rfl) ?_
          refine bd_cv (As := []) (rest := []) C (c3_stepDown _ _ _ _ _ _ hh hz (Nat.le_trans (q_tr_le _ _) (by omega)) hfh (q_tr_top fh (n - t / 32)) (by rw [q_tr_val, hq]; have := Nat.div_lt_self (n := q_s f n) (k := 2 ^ t) (okm.elim (fun q => absurd hg.1 (by rw [q.1]; decide +kernel)) (fun q => q.2)) (Nat.lt_of_lt_of_le (by decide) (Nat.pow_le_pow_right (show 0 < 2 by decide) ht0 : 2 ^ 1 ≤ 2 ^ t)); omega)) (cwV 0 hts gX3_lower_X3_stepDown rfl rfl rfl (by decide +kernel) ⟨Nat.le_of_ble_eq_true rfl, Nat.le_of_ble_eq_true rfl⟩) hsz hw (bd_recv C hw hh) dX3_lower_133 rfl hl.1 rfl (Nat.le_of_ble_eq_true rfl) ⟨Nat.le_refl _, Nat.le_refl _⟩ (fun E1 z H locs hp hw => ?_)
          obtain ⟨hE, hn2, hfr⟩ := hp
          rw [show E1 = E from hE] at hw
          rw [q_tr_val, hq] at hn2
          have ho := bd_tr (z2 := z) hfr ho
          have hfin : bd_n (z h) (v / ((2 ^ t : Nat) : Int)) := by
            have h1 : v = -((q_s f n : Nat) : Int) := by
              rcases hsg with q | q | q
              · exact absurd hg.1 (by rw [q.1]; decide +kernel)
              · exact absurd hg.1 (by rw [q.1]; decide +kernel)
              · omega
            rw [h1, fl_neg hdm.symm hml (Nat.pos_of_ne_zero hg.2)]
            exact hn2
          exact bd_vret C hr hlk hw dX3_lower_136 ⟨rfl, hfin, ho⟩
      · have hx0 : (f (t / 32 + i)) < 4294967296 := hf _ (by omega)
        have hab : (q_pd (n - t / 32) (fun j => f (t / 32 + j)) (i + 1)) < 4294967296 := by
          unfold q_pd
          split
          · exact hf _ (by omega)
          · decide
        have hlo9 : (f (t / 32 + i)) / 2 ^ (t % 32) < 2 ^ (32 - t % 32) := Nat.div_lt_of_lt_mul (by rw [q_ps32 (by omega)]; exact hx0)
        have hpw9 : 2 ^ (32 - t % 32) ≤ 2 ^ 32 := Nat.pow_le_pow_right (by decide) (by omega)
        have hmu9 : (q_pd (n - t / 32) (fun j => f (t / 32 + j)) (i + 1)) * 2 ^ (32 - t % 32) ≤ 4294967295 * 2 ^ 32 := Nat.mul_le_mul (by omega) hpw9
        have hu9 : (f (t / 32 + i)) / 2 ^ (t % 32) + (q_pd (n - t / 32) (fun j => f (t / 32 + j)) (i + 1)) * 2 ^ (32 - t % 32) < 2 ^ 64 := by omega
        suffices hj83 : W p l e (headSpec wsX3_lower ({ frames := 1, cells := 0, slots := 0, locals := 40 })).room s m [.ref h, .int (nI t)].toArray below meth c H locs 0 0 (MQ below (va_Qv (fun u => u.1 = E ∧ bd_n (u.2 h) (v / ((2 ^ t : Nat) : Int)) ∧ ∀ b, b ≠ h → u.2 b = z0 b) (bd_B K) (bd_A K sz)) [.ref h, .int (nI t)].toArray s 0 0 (bd_A K sz)) (F0 m 83 ls [.long (lN (q_pd (n - t / 32) (fun j => f (t / 32 + j)) (i + 1)))]) by
          refine lv_iload hx hb dX3_lower_59 (lv_at hl 0 rfl) ?_
          refine lv_iconst (v := nI 1) hx hb dX3_lower_61 (by decide) ?_
          refine bd_iadd (v := (nI (i + 1))) hx hb dX3_lower_62 (nI_add _ _) ?_
          refine lv_iload hx hb dX3_lower_63 (lv_at hl 1 rfl) ?_
          refine bd_ige (h1 := (by omega)) (h2 := (by omega)) (tgt := 82) hx hb dX3_lower_65 (by decide) (fun hc65 => ?_) (fun hc65 => ?_)
          · refine lv_lconst (v := lN 0) hx hb dX3_lower_82 rfl ?_
            rw [show (q_pd (n - t / 32) (fun j => f (t / 32 + j)) (i + 1)) = 0 from q_pd_out (by omega)] at hj83
            exact hj83
          · refine lv_aload_n hx hb dX3_lower_68 rfl (lv_at hl 5 rfl) ?_
            refine bd_grw C i3 hw hh hz dX3_lower_69 lk9 ?_
            refine lv_iload hx hb dX3_lower_72 (lv_at hl 0 rfl) ?_
            refine lv_iload_n hx hb dX3_lower_74 rfl (lv_at hl 4 rfl) ?_
            refine bd_iadd (v := (nI (i + t / 32))) hx hb dX3_lower_75 (nI_add _ _) ?_
            refine lv_iconst (v := nI 1) hx hb dX3_lower_76 (by decide) ?_
            refine bd_iadd (v := (nI (i + t / 32 + 1))) hx hb dX3_lower_77 (nI_add _ _) ?_
            refine bd_ald C hw hh hz dX3_lower_78 (by omega) ?_
            refine lv_goto (tgt := 83) hx hb dX3_lower_79 (by decide) ?_
            rw [show (q_pd (n - t / 32) (fun j => f (t / 32 + j)) (i + 1)) = fh (i + t / 32 + 1) from (q_pd_in (by omega)).trans (by rw [hhi _ (by omega)]; exact congrArg f (by omega))] at hj83
            exact hj83
        refine lv_lstore (lv' := [(7, .long (lN (q_pd (n - t / 32) (fun j => f (t / 32 + j)) (i + 1)))), (6, .int (nI i)), (5, .int (nI (n - t / 32))), (4, .int (nI (if g < 0 ∧ q_s f n % 2 ^ t ≠ 0 then 1 else 0))), (3, .int (nI (t % 32))), (2, .int (nI (t / 32))), (0, .ref h), (1, .int (nI t))]) hx hb dX3_lower_83 hl (by decide) rfl (fun ls hl => ?_)
        refine lv_aload_n hx hb dX3_lower_85 rfl (lv_at hl 6 rfl) ?_
        refine bd_grw C i3 hw hh hz dX3_lower_86 lk9 ?_
        refine lv_iload hx hb dX3_lower_89 (lv_at hl 1 rfl) ?_
        refine lv_aload_n hx hb dX3_lower_91 rfl (lv_at hl 6 rfl) ?_
        refine bd_grw C i3 hw hh hz dX3_lower_92 lk9 ?_
        refine lv_iload hx hb dX3_lower_95 (lv_at hl 1 rfl) ?_
        refine lv_iload_n hx hb dX3_lower_97 rfl (lv_at hl 5 rfl) ?_
        refine bd_iadd (v := (nI (i + t / 32))) hx hb dX3_lower_98 (nI_add _ _) ?_
        refine bd_ald C hw hh hz dX3_lower_99 (by omega) ?_
        rw [hhi _ (by omega), show i + t / 32 = t / 32 + i from Nat.add_comm _ _]
        refine lv_iload_n hx hb dX3_lower_100 rfl (lv_at hl 4 rfl) ?_
        refine bd_lushr (v := (lN ((f (t / 32 + i)) / 2 ^ (t % 32)))) hx hb dX3_lower_101 (wb_shr (Nat.lt_trans hx0 (by decide)) (by omega)) ?_
        refine lv_lload hx hb dX3_lower_102 (lv_at hl 0 rfl) ?_
        refine lv_bipush (v := nI 32) hx hb dX3_lower_104 (by decide) ?_
        refine lv_iload_n hx hb dX3_lower_106 rfl (lv_at hl 4 rfl) ?_
        refine bd_isub (v := (nI (32 - t % 32))) hx hb dX3_lower_107 (pk_sub (by omega)) ?_
        refine bd_lshl (v := (lN ((q_pd (n - t / 32) (fun j => f (t / 32 + j)) (i + 1)) * 2 ^ (32 - t % 32)))) hx hb dX3_lower_108 (wb_shl _ (by omega)) ?_
        refine bd_lor (v := (lN ((f (t / 32 + i)) / 2 ^ (t % 32) + (q_pd (n - t / 32) (fun j => f (t / 32 + j)) (i + 1)) * 2 ^ (32 - t % 32)))) hx hb dX3_lower_109 (g_or' (k := 32 - t % 32) rfl hlo9 hu9) ?_
        refine lv_ldc2 (v := lN 4294967295) hx hb hown (hts _ lk30) dX3_lower_110 ?_
        refine bd_land (v := (lN (((f (t / 32 + i)) / 2 ^ (t % 32) + (q_pd (n - t / 32) (fun j => f (t / 32 + j)) (i + 1)) * 2 ^ (32 - t % 32)) % 4294967296))) hx hb dX3_lower_113 (bd_m32 hu9) ?_
        refine bd_ast C hw hh hz dX3_lower_114 (by omega) (fun z H locs hz hfr hw => ?_)
        have hz : z h = (n, g, (va_up fh i (((f (t / 32 + i)) / 2 ^ (t % 32) + (q_pd (n - t / 32) (fun j => f (t / 32 + j)) (i + 1)) * 2 ^ (32 - t % 32)) % 4294967296))) := hz
        have ho := bd_tr hfr ho
        refine lv_iinc (v := (nI (i + 1))) (lv' := [(6, .int (nI (i + 1))), (7, .long (lN (q_pd (n - t / 32) (fun j => f (t / 32 + j)) (i + 1)))), (5, .int (nI (n - t / 32))), (4, .int (nI (if g < 0 ∧ q_s f n % 2 ^ t ≠ 0 then 1 else 0))), (3, .int (nI (t % 32))), (2, .int (nI (t / 32))), (0, .ref h), (1, .int (nI t))]) hx hb dX3_lower_115 hl (k := 1) rfl (nI_1 _) (by decide) rfl (fun ls hl => ?_)
        refine lv_goto (tgt := 52) hx hb dX3_lower_118 (by decide) ?_
        exact ih (d - 1) (by omega) (i + 1) z ls H locs _ (by omega) hz (q_r_up hfh (Nat.mod_lt _ (by decide))) (fun j hj => if q : j = i then by rw [q, va_up_self] else by rw [va_up_ne _ _ q]; exact hlo j (by omega)) (fun j hj => by rw [va_up_ne _ _ (by omega)]; exact hhi j (by omega)) ho (lv_sub hl [0, 2, 3, 4, 5, 6, 7] rfl) hw
  · exact absurd hc1 (by omega)
