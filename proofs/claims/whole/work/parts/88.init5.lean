/-! constructors: BallDeskModel (laid by wip/gen/m_init5.py) -/
abbrev np_K0 (D : va_G) (T : np_T) (L : List Nat) : Cxt := (D, T, L, [], (fun _ => 0), (fun _ => 0))
theorem np_o0 {D : va_G} {T : np_T} {L : List Nat} {b : Nat} : bd_o (np_K0 D T L) b := ⟨List.not_mem_nil, fun h => List.not_mem_nil h.1⟩
theorem np_e0 {D : va_G} {T : np_T} {L : List Nat} {f : Nat → va_E} {z : Nat → Wh} : bd_e (np_K0 D T L) f z = f := by
  funext b
  exact bd_e0 np_o0
/-- the model made: its cells ad1 0 .. ad1 4 -/
def ix_X5 (D : va_G) (T : np_T) (P : Nat) (ad1 : Nat → Nat) (f1 : Nat → va_E) : Prop := ∃ rg : Nat → Int, md_v (np_K0 D T (ix_L ad1 5)) f1 ad1 (nI 0) P rg ∧ md_iv P rg (fun _ => 0) (fun _ => 0)
theorem mv_z (F : Nat → Nat → Nat) (G : Nat → Int32) (hF : ∀ r k, F r k = 0) (hG : ∀ r, G r = 0) : mv_i F G (fun _ => 0) := fun r _ => ⟨fun k _ => by rw [hF]; decide, by rw [h_z.mpr (fun k _ => hF r k)]; rfl, by rw [hG]; rfl⟩
theorem dk_b1 {b : Int32} (h1 : nI 16 ≤ b) (h2 : b ≤ nI 192) : b = nI (dk_bits b) := by
  have e1 : (16 : Int) ≤ b.toInt := Int32.le_iff_toInt_le.mp h1
  have e2 : b.toInt ≤ (192 : Int) := Int32.le_iff_toInt_le.mp h2
  have hb := dk_bitsb b
  apply Int32.toInt_inj.mp
  rw [nI_toInt (show dk_bits b < 2 ^ 31 by omega)]
  unfold dk_bits
  rw [if_neg (by omega), if_neg (by omega)]
  omega
theorem dk_b2 {b : Int32} (h2 : ¬ b ≤ nI 192) : nI (dk_bits b) = nI 192 := by
  have e2 : ¬ b.toInt ≤ (192 : Int) := fun q => h2 (Int32.le_iff_toInt_le.mpr q)
  unfold dk_bits
  rw [if_neg (by omega), if_pos (by omega)]
theorem dk_b3 {b : Int32} (h1 : ¬ nI 16 ≤ b) : nI (dk_bits b) = nI 16 := by
  have e1 : ¬ (16 : Int) ≤ b.toInt := fun q => h1 (Int32.le_iff_toInt_le.mpr q)
  unfold dk_bits
  rw [if_pos (by omega)]
theorem hqi_0 { j : Nat} (hj : j < 24) : j ≠ 27 := by omega
theorem hqi_1 { j : Nat} (hj : j < 24) : j ≠ 28 := by omega
theorem hqi_2 { j : Nat} (hj : j < 24) : j ≠ 45 := by omega
theorem hqi_3 { j : Nat} (hj : j < 24) : j ≠ 32 := by omega
theorem hqi_4 { j : Nat} (hj : j < 24) : j ≠ 45 ∧ j ≠ 32 ∧ (j < 35 ∨ 39 < j) := by omega
theorem hqi_5 { j : Nat} (hj : j < 24) : j ≠ 46 := by omega
theorem hqi_6 { j : Nat} (hj : j < 24) : j ≠ 46 ∧ j ≠ 32 ∧ (j < 35 ∨ 39 < j) := by omega
theorem hqi_7 { j : Nat} (hj : j < 24) : j ≠ 26 := by omega
set_option maxHeartbeats 4000000 in
set_option maxRecDepth 100000 in
/-- new BallDeskModel(bits) -/
theorem i5_init (l : Launch) (D : va_G) (T : np_T) (ad : Nat → Nat) (f : Nat → va_E) (sz : Nat) (bv : Int32) (hf : f (ad 0) = .inr (5, [.int 0, .int 0, .int 0, .null, .null, .null, .null])) : Met l yX5_init wsX5_init ({ frames := 9, cells := 4, slots := 2206, locals := 320 }) (va_Pc [.ref (ad 0), .int bv] (np_P D T (ix_L ad 1) f sz)) (va_Qv (ix_q 1 4 0 ad f (ix_X5 D T (dk_bits bv))) (np_B D T (ix_L ad 1) sz) (np_A (ix_L ad 1) sz)) 4 2206 (np_A (ix_L ad 1) sz) := by
  refine np_ofW (cc := cX5_init) (maxL := 2) (by decide) rfl rfl (Nat.le_of_ble_eq_true rfl) ?_
  intro p e s m below meth c ls C hr hlk hsz hw hl
  have hx := C.1
  have hb := C.2.1
  have hml := C.2.2.1
  have hown := C.2.2.2.1
  have hts := C.2.2.2.2.1
  have hNs := C.2.2.2.2.2.2.1
  have hinj := fun {i j : Nat} => ix_inj hw.2.1 (i := i) (j := j)
  have hl : lv_has ls 2 [(0, .ref (ad 0)), (1, .int bv)] := hl
  refine lv_aload_n hx hb dX5_init_0 rfl (lv_at hl 0 rfl) ?_
  refine W.objInit hx hb hown (hts (.methodLink RX5 1 objectInit) (by decide +kernel)) (hts (.instanceMethod objectInit) (by decide +kernel)) (hts _ (List.mem_of_getElem? (i := 3) rfl)) rfl (by rw [hml]; exact hl.1) rfl dX5_init_1 (Nat.le_of_ble_eq_true rfl) (Nat.le_of_ble_eq_true rfl) ?_
  refine W.eq (g2 := F0 m 4 ls []) rfl ?_
  have hF := hf
  refine lv_aload_n hx hb dX5_init_4 rfl (lv_at hl 0 rfl) ?_
  refine lv_sipush (v := nI 2040) hx hb dX5_init_5 (by decide) ?_
  refine np_newi (N' := 2040) C (by decide +kernel) hsz hw (by decide) (by decide) (by decide) (Nat.le_of_ble_eq_true rfl) (Nat.le_of_ble_eq_true rfl) dX5_init_8 (fun q0 H hq0 hw => ?_)
  have hn0 : ad 0 ≠ q0 := fun h => hq0 (by rw [← h]; first | exact ix_in (by decide) | exact List.mem_append_left _ (ix_in (by decide)) | exact List.mem_append_left _ (List.mem_append_left _ (ix_in (by decide))) | exact List.mem_append_left _ (List.mem_append_left _ (List.mem_append_left _ (ix_in (by decide)))) | exact List.mem_append_left _ (List.mem_append_left _ (List.mem_append_left _ (List.mem_append_left _ (ix_in (by decide))))))
  refine np_putF (C0 := RX5) (T0 := TX5) (N := 7) (ci := 5) (ty := .array .int) C (by decide +kernel) tyX5 tyX5_ok nmX5 hw (by first | exact ix_in (by decide) | exact List.mem_append_left _ (ix_in (by decide)) | exact List.mem_append_left _ (List.mem_append_left _ (ix_in (by decide))) | exact List.mem_append_left _ (List.mem_append_left _ (List.mem_append_left _ (ix_in (by decide)))) | exact List.mem_append_left _ (List.mem_append_left _ (List.mem_append_left _ (List.mem_append_left _ (ix_in (by decide)))))) (by rw [va_up_ne _ _ hn0]; exact hF) rfl 3 (by decide) (by decide +kernel) rfl rfl rfl (by decide +kernel) rfl rfl (Nat.le_of_ble_eq_true rfl) dX5_init_10 (fun H locs hw => ?_)
  obtain ⟨f1, hf1⟩ : ∃ g, g = va_up (va_up f q0 (.inl (T.1, 2040, .inl (fun _ => nI 0)))) (ad 0) (.inr (5, [.int 0, .int 0, .int 0, .ref q0, .null, .null, .null])) := ⟨_, rfl⟩
  have hw : np_W D (ix_L ad 1 ++ [q0]) f1 (np_A (ix_L ad 1) sz) s.heap H locs := by rw [hf1]; exact hw
  have hF : f1 (ad 0) = .inr (5, [.int 0, .int 0, .int 0, .ref q0, .null, .null, .null]) := by rw [hf1]; exact va_up_self _ _ _
  have hA0 : f1 q0 = .inl (T.1, 2040, .inl (fun _ => nI 0)) := by rw [hf1, va_up_ne _ _ hn0.symm]; exact va_up_self _ _ _
  refine lv_aload_n hx hb dX5_init_13 rfl (lv_at hl 0 rfl) ?_
  refine lv_bipush (v := nI 60) hx hb dX5_init_14 (by decide) ?_
  refine np_newi (N' := 60) C (by decide +kernel) hsz hw (by decide) (by decide) (by decide) (Nat.le_of_ble_eq_true rfl) (Nat.le_of_ble_eq_true rfl) dX5_init_16 (fun q1 H hq1 hw => ?_)
  have hn1 : ad 0 ≠ q1 := fun h => hq1 (by rw [← h]; first | exact ix_in (by decide) | exact List.mem_append_left _ (ix_in (by decide)) | exact List.mem_append_left _ (List.mem_append_left _ (ix_in (by decide))) | exact List.mem_append_left _ (List.mem_append_left _ (List.mem_append_left _ (ix_in (by decide)))) | exact List.mem_append_left _ (List.mem_append_left _ (List.mem_append_left _ (List.mem_append_left _ (ix_in (by decide))))))
  have hn0_1 : q0 ≠ q1 := fun h => hq1 (by rw [← h]; simp)
  refine np_putF (C0 := RX5) (T0 := TX5) (N := 7) (ci := 5) (ty := .array .int) C (by decide +kernel) tyX5 tyX5_ok nmX5 hw (by first | exact ix_in (by decide) | exact List.mem_append_left _ (ix_in (by decide)) | exact List.mem_append_left _ (List.mem_append_left _ (ix_in (by decide))) | exact List.mem_append_left _ (List.mem_append_left _ (List.mem_append_left _ (ix_in (by decide)))) | exact List.mem_append_left _ (List.mem_append_left _ (List.mem_append_left _ (List.mem_append_left _ (ix_in (by decide)))))) (by rw [va_up_ne _ _ hn1]; exact hF) rfl 4 (by decide) (by decide +kernel) rfl rfl rfl (by decide +kernel) rfl rfl (Nat.le_of_ble_eq_true rfl) dX5_init_18 (fun H locs hw => ?_)
  obtain ⟨f2, hf2⟩ : ∃ g, g = va_up (va_up f1 q1 (.inl (T.1, 60, .inl (fun _ => nI 0)))) (ad 0) (.inr (5, [.int 0, .int 0, .int 0, .ref q0, .ref q1, .null, .null])) := ⟨_, rfl⟩
  have hw : np_W D ((ix_L ad 1 ++ [q0]) ++ [q1]) f2 (np_A (ix_L ad 1) sz) s.heap H locs := by rw [hf2]; exact hw
  have hF : f2 (ad 0) = .inr (5, [.int 0, .int 0, .int 0, .ref q0, .ref q1, .null, .null]) := by rw [hf2]; exact va_up_self _ _ _
  have hA1 : f2 q1 = .inl (T.1, 60, .inl (fun _ => nI 0)) := by rw [hf2, va_up_ne _ _ hn1.symm]; exact va_up_self _ _ _
  have hA0 := (show f2 q0 = f1 q0 by rw [hf2, va_up_ne _ _ hn0.symm, va_up_ne _ _ hn0_1]).trans hA0
  refine lv_aload_n hx hb dX5_init_21 rfl (lv_at hl 0 rfl) ?_
  refine lv_bipush (v := nI 70) hx hb dX5_init_22 (by decide) ?_
  refine np_newl (N' := 70) C (by decide +kernel) hsz hw (by decide) (by decide) (by decide) (Nat.le_of_ble_eq_true rfl) (Nat.le_of_ble_eq_true rfl) dX5_init_24 (fun q2 H hq2 hw => ?_)
  have hn2 : ad 0 ≠ q2 := fun h => hq2 (by rw [← h]; first | exact ix_in (by decide) | exact List.mem_append_left _ (ix_in (by decide)) | exact List.mem_append_left _ (List.mem_append_left _ (ix_in (by decide))) | exact List.mem_append_left _ (List.mem_append_left _ (List.mem_append_left _ (ix_in (by decide)))) | exact List.mem_append_left _ (List.mem_append_left _ (List.mem_append_left _ (List.mem_append_left _ (ix_in (by decide))))))
  have hn0_2 : q0 ≠ q2 := fun h => hq2 (by rw [← h]; simp)
  have hn1_2 : q1 ≠ q2 := fun h => hq2 (by rw [← h]; simp)
  refine np_putF (C0 := RX5) (T0 := TX5) (N := 7) (ci := 5) (ty := .array .long) C (by decide +kernel) tyX5 tyX5_ok nmX5 hw (by first | exact ix_in (by decide) | exact List.mem_append_left _ (ix_in (by decide)) | exact List.mem_append_left _ (List.mem_append_left _ (ix_in (by decide))) | exact List.mem_append_left _ (List.mem_append_left _ (List.mem_append_left _ (ix_in (by decide)))) | exact List.mem_append_left _ (List.mem_append_left _ (List.mem_append_left _ (List.mem_append_left _ (ix_in (by decide)))))) (by rw [va_up_ne _ _ hn2]; exact hF) rfl 5 (by decide) (by decide +kernel) rfl rfl rfl (by decide +kernel) rfl rfl (Nat.le_of_ble_eq_true rfl) dX5_init_26 (fun H locs hw => ?_)
  obtain ⟨f3, hf3⟩ : ∃ g, g = va_up (va_up f2 q2 (.inl (T.2.1, 70, .inr (.inl (fun _ => lN 0))))) (ad 0) (.inr (5, [.int 0, .int 0, .int 0, .ref q0, .ref q1, .ref q2, .null])) := ⟨_, rfl⟩
  have hw : np_W D (((ix_L ad 1 ++ [q0]) ++ [q1]) ++ [q2]) f3 (np_A (ix_L ad 1) sz) s.heap H locs := by rw [hf3]; exact hw
  have hF : f3 (ad 0) = .inr (5, [.int 0, .int 0, .int 0, .ref q0, .ref q1, .ref q2, .null]) := by rw [hf3]; exact va_up_self _ _ _
  have hA2 : f3 q2 = .inl (T.2.1, 70, .inr (.inl (fun _ => lN 0))) := by rw [hf3, va_up_ne _ _ hn2.symm]; exact va_up_self _ _ _
  have hA0 := (show f3 q0 = f2 q0 by rw [hf3, va_up_ne _ _ hn0.symm, va_up_ne _ _ hn0_2]).trans hA0
  have hA1 := (show f3 q1 = f2 q1 by rw [hf3, va_up_ne _ _ hn1.symm, va_up_ne _ _ hn1_2]).trans hA1
  refine lv_aload_n hx hb dX5_init_29 rfl (lv_at hl 0 rfl) ?_
  refine lv_bipush (v := nI 36) hx hb dX5_init_30 (by decide) ?_
  refine np_newi (N' := 36) C (by decide +kernel) hsz hw (by decide) (by decide) (by decide) (Nat.le_of_ble_eq_true rfl) (Nat.le_of_ble_eq_true rfl) dX5_init_32 (fun q3 H hq3 hw => ?_)
  have hn3 : ad 0 ≠ q3 := fun h => hq3 (by rw [← h]; first | exact ix_in (by decide) | exact List.mem_append_left _ (ix_in (by decide)) | exact List.mem_append_left _ (List.mem_append_left _ (ix_in (by decide))) | exact List.mem_append_left _ (List.mem_append_left _ (List.mem_append_left _ (ix_in (by decide)))) | exact List.mem_append_left _ (List.mem_append_left _ (List.mem_append_left _ (List.mem_append_left _ (ix_in (by decide))))))
  have hn0_3 : q0 ≠ q3 := fun h => hq3 (by rw [← h]; simp)
  have hn1_3 : q1 ≠ q3 := fun h => hq3 (by rw [← h]; simp)
  have hn2_3 : q2 ≠ q3 := fun h => hq3 (by rw [← h]; simp)
  refine np_putF (C0 := RX5) (T0 := TX5) (N := 7) (ci := 5) (ty := .array .int) C (by decide +kernel) tyX5 tyX5_ok nmX5 hw (by first | exact ix_in (by decide) | exact List.mem_append_left _ (ix_in (by decide)) | exact List.mem_append_left _ (List.mem_append_left _ (ix_in (by decide))) | exact List.mem_append_left _ (List.mem_append_left _ (List.mem_append_left _ (ix_in (by decide)))) | exact List.mem_append_left _ (List.mem_append_left _ (List.mem_append_left _ (List.mem_append_left _ (ix_in (by decide)))))) (by rw [va_up_ne _ _ hn3]; exact hF) rfl 6 (by decide) (by decide +kernel) rfl rfl rfl (by decide +kernel) rfl rfl (Nat.le_of_ble_eq_true rfl) dX5_init_34 (fun H locs hw => ?_)
  obtain ⟨f4, hf4⟩ : ∃ g, g = va_up (va_up f3 q3 (.inl (T.1, 36, .inl (fun _ => nI 0)))) (ad 0) (.inr (5, [.int 0, .int 0, .int 0, .ref q0, .ref q1, .ref q2, .ref q3])) := ⟨_, rfl⟩
  have hw : np_W D ((((ix_L ad 1 ++ [q0]) ++ [q1]) ++ [q2]) ++ [q3]) f4 (np_A (ix_L ad 1) sz) s.heap H locs := by rw [hf4]; exact hw
  have hF : f4 (ad 0) = .inr (5, [.int 0, .int 0, .int 0, .ref q0, .ref q1, .ref q2, .ref q3]) := by rw [hf4]; exact va_up_self _ _ _
  have hA3 : f4 q3 = .inl (T.1, 36, .inl (fun _ => nI 0)) := by rw [hf4, va_up_ne _ _ hn3.symm]; exact va_up_self _ _ _
  have hA0 := (show f4 q0 = f3 q0 by rw [hf4, va_up_ne _ _ hn0.symm, va_up_ne _ _ hn0_3]).trans hA0
  have hA1 := (show f4 q1 = f3 q1 by rw [hf4, va_up_ne _ _ hn1.symm, va_up_ne _ _ hn1_3]).trans hA1
  have hA2 := (show f4 q2 = f3 q2 by rw [hf4, va_up_ne _ _ hn2.symm, va_up_ne _ _ hn2_3]).trans hA2
  refine lv_aload_n hx hb dX5_init_37 rfl (lv_at hl 0 rfl) ?_
  suffices hj63 : W p l e (headSpec wsX5_init ({ frames := 9, cells := 4, slots := 2206, locals := 320 })).room s m [.ref (ad 0), .int bv].toArray below meth c H locs (0 + 1 + 1 + 1 + 1) (0 + 2040 + 60 + 70 + 36) (MQ below (va_Qv (ix_q 1 4 0 ad f (ix_X5 D T (dk_bits bv))) (np_B D T (ix_L ad 1) sz) (np_A (ix_L ad 1) sz)) [.ref (ad 0), .int bv].toArray s 4 2206 (np_A (ix_L ad 1) sz)) (F0 m 63 ls [.int (nI (dk_bits bv)), .ref (ad 0)]) by
    refine lv_iload_n hx hb dX5_init_38 rfl (lv_at hl 1 rfl) ?_
    refine lv_bipush (v := nI 16) hx hb dX5_init_39 (by decide) ?_
    refine lv_icmp_ge (tgt := 49) hx hb dX5_init_41 (by decide) (fun hc => ?_) (fun hc => ?_)
    · refine lv_iload_n hx hb dX5_init_49 rfl (lv_at hl 1 rfl) ?_
      refine lv_sipush (v := nI 192) hx hb dX5_init_50 (by decide) ?_
      refine lv_icmp_le (tgt := 62) hx hb dX5_init_53 (by decide) (fun hc2 => ?_) (fun hc2 => ?_)
      · refine lv_iload_n hx hb dX5_init_62 rfl (lv_at hl 1 rfl) ?_
        rw [← dk_b1 hc hc2] at hj63
        exact hj63
      · refine lv_sipush (v := nI 192) hx hb dX5_init_56 (by decide) ?_
        refine lv_goto (tgt := 63) hx hb dX5_init_59 (by decide) ?_
        rw [dk_b2 hc2] at hj63
        exact hj63
    · refine lv_bipush (v := nI 16) hx hb dX5_init_44 (by decide) ?_
      refine lv_goto (tgt := 63) hx hb dX5_init_46 (by decide) ?_
      rw [dk_b3 hc] at hj63
      exact hj63
  obtain ⟨P, hPe⟩ : ∃ y, y = (dk_bits bv) := ⟨_, rfl⟩
  have hPb := dk_bitsb bv
  rw [← hPe] at hPb ⊢
  obtain ⟨hP1, hP2⟩ := hPb
  refine np_putF (C0 := RX5) (T0 := TX5) (N := 7) (ci := 5) (ty := .int) C (by decide +kernel) tyX5 tyX5_ok nmX5 hw (by first | exact ix_in (by decide) | exact List.mem_append_left _ (ix_in (by decide)) | exact List.mem_append_left _ (List.mem_append_left _ (ix_in (by decide))) | exact List.mem_append_left _ (List.mem_append_left _ (List.mem_append_left _ (ix_in (by decide)))) | exact List.mem_append_left _ (List.mem_append_left _ (List.mem_append_left _ (List.mem_append_left _ (ix_in (by decide)))))) hF rfl 1 (by decide) (by decide +kernel) rfl rfl rfl (by decide +kernel) rfl rfl (Nat.le_of_ble_eq_true rfl) dX5_init_63 (fun H locs hw => ?_)
  obtain ⟨f5, hf5⟩ : ∃ g, g = va_up f4 (ad 0) (.inr (5, [.int 0, .int (nI P), .int 0, .ref q0, .ref q1, .ref q2, .ref q3])) := ⟨_, rfl⟩
  have hw : np_W D ((((ix_L ad 1 ++ [q0]) ++ [q1]) ++ [q2]) ++ [q3]) f5 (np_A (ix_L ad 1) sz) s.heap H locs := by rw [hf5]; exact hw
  have hF : f5 (ad 0) = .inr (5, [.int 0, .int (nI P), .int 0, .ref q0, .ref q1, .ref q2, .ref q3]) := by rw [hf5]; exact va_up_self _ _ _
  have hA0 := (show f5 q0 = f4 q0 by rw [hf5, va_up_ne _ _ hn0.symm]).trans hA0
  have hA1 := (show f5 q1 = f4 q1 by rw [hf5, va_up_ne _ _ hn1.symm]).trans hA1
  have hA2 := (show f5 q2 = f4 q2 by rw [hf5, va_up_ne _ _ hn2.symm]).trans hA2
  have hA3 := (show f5 q3 = f4 q3 by rw [hf5, va_up_ne _ _ hn3.symm]).trans hA3
  refine lv_aload_n hx hb dX5_init_66 rfl (lv_at hl 0 rfl) ?_
  refine lv_aload_n hx hb dX5_init_67 rfl (lv_at hl 0 rfl) ?_
  refine np_g (C0 := RX5) (T0 := TX5) (M := 7) (ci := 5) C (by decide +kernel) hw (by first | exact ix_in (by decide) | exact List.mem_append_left _ (ix_in (by decide)) | exact List.mem_append_left _ (List.mem_append_left _ (ix_in (by decide))) | exact List.mem_append_left _ (List.mem_append_left _ (List.mem_append_left _ (ix_in (by decide)))) | exact List.mem_append_left _ (List.mem_append_left _ (List.mem_append_left _ (List.mem_append_left _ (ix_in (by decide)))))) hF rfl 1 (by decide) (v := .int (nI P)) rfl rfl dX5_init_68 (by decide +kernel) ?_
  refine lv_bipush (v := nI 64) hx hb dX5_init_71 (by decide) ?_
  refine bd_iadd (v := nI (P + 64)) hx hb dX5_init_73 (nI_add _ _) ?_
  refine np_putF (C0 := RX5) (T0 := TX5) (N := 7) (ci := 5) (ty := .int) C (by decide +kernel) tyX5 tyX5_ok nmX5 hw (by first | exact ix_in (by decide) | exact List.mem_append_left _ (ix_in (by decide)) | exact List.mem_append_left _ (List.mem_append_left _ (ix_in (by decide))) | exact List.mem_append_left _ (List.mem_append_left _ (List.mem_append_left _ (ix_in (by decide)))) | exact List.mem_append_left _ (List.mem_append_left _ (List.mem_append_left _ (List.mem_append_left _ (ix_in (by decide)))))) hF rfl 2 (by decide) (by decide +kernel) rfl rfl rfl (by decide +kernel) rfl rfl (Nat.le_of_ble_eq_true rfl) dX5_init_74 (fun H locs hw => ?_)
  obtain ⟨f6, hf6⟩ : ∃ g, g = va_up f5 (ad 0) (.inr (5, [.int 0, .int (nI P), .int (nI (P + 64)), .ref q0, .ref q1, .ref q2, .ref q3])) := ⟨_, rfl⟩
  have hw : np_W D ((((ix_L ad 1 ++ [q0]) ++ [q1]) ++ [q2]) ++ [q3]) f6 (np_A (ix_L ad 1) sz) s.heap H locs := by rw [hf6]; exact hw
  have hF : f6 (ad 0) = .inr (5, [.int 0, .int (nI P), .int (nI (P + 64)), .ref q0, .ref q1, .ref q2, .ref q3]) := by rw [hf6]; exact va_up_self _ _ _
  have hA0 := (show f6 q0 = f5 q0 by rw [hf6, va_up_ne _ _ hn0.symm]).trans hA0
  have hA1 := (show f6 q1 = f5 q1 by rw [hf6, va_up_ne _ _ hn1.symm]).trans hA1
  have hA2 := (show f6 q2 = f5 q2 by rw [hf6, va_up_ne _ _ hn2.symm]).trans hA2
  have hA3 := (show f6 q3 = f5 q3 by rw [hf6, va_up_ne _ _ hn3.symm]).trans hA3
  obtain ⟨ad1, had1⟩ : ∃ g, g = va_up (va_up (va_up (va_up ad 1 q0) 2 q1) 3 q2) 4 q3 := ⟨_, rfl⟩
  have hLL : ((((ix_L ad 1 ++ [q0]) ++ [q1]) ++ [q2]) ++ [q3]) = ix_L ad1 5 := by rw [had1, ix_s, ix_s, ix_s, ix_s]
  rw [hLL] at hw
  have a0 : ad1 0 = ad 0 := by rw [had1]; rfl
  have a1 : ad1 1 = q0 := by rw [had1]; rfl
  have a2 : ad1 2 = q1 := by rw [had1]; rfl
  have a3 : ad1 3 = q2 := by rw [had1]; rfl
  have a4 : ad1 4 = q3 := by rw [had1]; rfl
  have hinj := fun {i j : Nat} => ix_inj hw.2.1 (i := i) (j := j)
  let K := np_K0 D T (ix_L ad1 5)
  have hy : bd_y K := fun b hb => absurd hb List.not_mem_nil
  have hm : md_at K f6 ad1 (nI 0) P (fun _ _ => 0) (fun _ => 0) (fun _ => 0) (fun _ => 0) := ⟨fun i hi => ⟨ix_in hi, np_o0⟩, fun i j hi hj h => hinj hi hj h, ⟨hP1, hP2⟩, by rw [a0, hF]; unfold md_l; rw [a1, a2, a3, a4]; rfl, by rw [a1]; exact hA0, by rw [a2]; exact hA1, by rw [a3]; exact hA2, by rw [a4]; exact hA3⟩
  have hv : md_v K f6 ad1 (nI 0) P (fun _ => 0) := ⟨_, _, _, _, hm, mv_z _ _ (fun _ _ => rfl) (fun _ => rfl)⟩
  have hA : np_A (ix_L ad 1) sz = bd_A K sz := by
    funext q
    apply propext
    constructor
    · intro h
      rcases h with h | h
      · exact Or.inl (by show _ ∈ ix_L ad1 5; rw [← hLL]; exact List.mem_append_left _ (List.mem_append_left _ (List.mem_append_left _ (List.mem_append_left _ h))))
      · exact Or.inr h
    · intro h
      rcases h with h | h
      · obtain ⟨k9, hk9⟩ := va_pl_get (X := []) (f := f6) h
        exact hw.2.1.2 k9 _ hk9
      · exact Or.inr h
  have hw : bd_W K f6 (fun _ => (0, 0, fun _ => 0)) (bd_A K sz) s.heap H locs := by
    unfold bd_W
    rw [← hA, np_e0]
    exact hw
  have Cn := C
  have C : bd_C p s m [.ref (ad 0), .int bv].toArray c cX5_init 2 wsX5_init RX5 K := ⟨hx, hb, hml, hown, hts, C.2.2.2.2.2.1, hy, hNs⟩
  have i5 : ∀ w ∈ wsX50, w ∈ wsX5_init := by decide +kernel
  have hl : lv_has ls 2 [(0, .ref (ad1 0)), (1, .int bv)] := by rw [a0]; exact hl
  clear hF hA0 hA1 hA2 hA3 hm hinj
  have hP64 : P + 64 < 816 := by omega
  have hp256 : (2 : Nat) ^ (P + 64) ≤ 2 ^ 256 := Nat.pow_le_pow_right (by decide) (by omega)
  have hDp : (0 : Int) < ((2 ^ (P + 64) : Nat) : Int) := Int.natCast_pos.mpr (Nat.pow_pos (by decide))
  have h5 : 2 * ((((2 ^ (P + 64) : Nat) : Int) / 5 : Int).natAbs : Int) ≤ ((2 ^ (P + 64) : Nat) : Int) := by omega
  have h239 : 2 * ((((2 ^ (P + 64) : Nat) : Int) / 239 : Int).natAbs : Int) ≤ ((2 ^ (P + 64) : Nat) : Int) := by omega
  have hDb : (((2 ^ (P + 64) : Nat) : Int) : Int).natAbs ≤ 2 ^ 256 := by rw [Int.natAbs_natCast]; exact hp256
  have hR5 : (sp_RW 1 ((2 ^ (P + 64) : Nat) : Int) (((2 ^ (P + 64) : Nat) : Int) / 5)).natAbs ≤ 2 ^ 256 := lg_hb (sp_RWb (al := 1) hDp h5) h5 hDb
  have hR2 : (sp_RW 1 ((2 ^ (P + 64) : Nat) : Int) (((2 ^ (P + 64) : Nat) : Int) / 239)).natAbs ≤ 2 ^ 256 := lg_hb (sp_RWb (al := 1) hDp h239) h239 hDb
  change hid _ at h5 h239 hDb hR5 hR2
  obtain ⟨rg0, hrg0⟩ : ∃ g, g = (fun _ : Nat => (0 : Int)) := ⟨_, rfl⟩
  rw [← hrg0] at hv
  have hof : ∀ j, j < 24 → rg0 j = rg0 j := fun _ _ => rfl
  have hall : ∀ j, rg0 j = 0 := fun j => by rw [hrg0]
  clear hrg0
  have lk27 : Cond.fieldLink RX5 27 "BallDeskModel" "fine" "I" ∈ wsX5_init := by decide +kernel
  have lk23 : Cond.fieldLink RX5 23 "BallDeskModel" "places" "I" ∈ wsX5_init := by decide +kernel
  refine lv_aload_n hx hb dX5_init_77 rfl (lv_at hl 0 rfl) ?_
  refine lv_bipush (v := nI 27) hx hb dX5_init_78 (by decide) ?_
  refine lv_aload_n hx hb dX5_init_80 rfl (lv_at hl 0 rfl) ?_
  refine mv_g C i5 hw hv 2 (by decide) (v := .int (nI (P + 64))) rfl dX5_init_81 lk27 ?_
  refine bd_cv (As := [.int (nI 27), .int (nI (P + 64))]) (rest := []) C (v5_power _ _ _ _ _ hv 27 (P + 64) (by decide) hP64) (cwV 2 hts gX5_init_X5_power rfl rfl rfl (by decide +kernel) ⟨Nat.le_of_ble_eq_true rfl, Nat.le_of_ble_eq_true rfl⟩) hsz hw (mv_recv C hw hv) dX5_init_84 rfl hl.1 rfl (Nat.le_of_ble_eq_true rfl) ⟨Nat.le_refl _, Nat.le_refl _⟩ (fun E z H locs hp hw => ?_)
  obtain ⟨rg, hv, hv0_, hf9⟩ := hp
  have fT0_ : rg 27 = ((2 ^ (P + 64) : Nat) : Int) := hv0_.trans (by rfl)
  have f_27 := fT0_
  have hof : ∀ j, j < 24 → rg j = rg0 j := fun j hj => (hf9 j (hqi_0 hj)).trans (hof j hj)
  refine lv_aload_n hx hb dX5_init_87 rfl (lv_at hl 0 rfl) ?_
  refine lv_bipush (v := nI 28) hx hb dX5_init_88 (by decide) ?_
  refine lv_aload_n hx hb dX5_init_90 rfl (lv_at hl 0 rfl) ?_
  refine mv_g C i5 hw hv 1 (by decide) (v := .int (nI P)) rfl dX5_init_91 lk23 ?_
  refine lv_bipush (v := nI 48) hx hb dX5_init_94 (by decide) ?_
  refine bd_iadd (v := (nI (P + 48))) hx hb dX5_init_96 (nI_add _ _) ?_
  refine bd_cv (As := [.int (nI 28), .int (nI (P + 48))]) (rest := []) C (v5_power _ _ _ _ _ hv 28 (P + 48) (by decide) (by omega)) (cwV 2 hts gX5_init_X5_power rfl rfl rfl (by decide +kernel) ⟨Nat.le_of_ble_eq_true rfl, Nat.le_of_ble_eq_true rfl⟩) hsz hw (mv_recv C hw hv) dX5_init_97 rfl hl.1 rfl (Nat.le_of_ble_eq_true rfl) ⟨Nat.le_refl _, Nat.le_refl _⟩ (fun E z H locs hp hw => ?_)
  obtain ⟨rg, hv, hv0_, hf9⟩ := hp
  have fT0_ : rg 28 = ((2 ^ (P + 48) : Nat) : Int) := hv0_.trans (by rfl)
  have f_27 : rg 27 = ((2 ^ (P + 64) : Nat) : Int) := (hf9 27 (by decide)).trans f_27
  have f_28 := fT0_
  have hof : ∀ j, j < 24 → rg j = rg0 j := fun j hj => (hf9 j (hqi_1 hj)).trans (hof j hj)
  refine lv_aload_n hx hb dX5_init_100 rfl (lv_at hl 0 rfl) ?_
  refine lv_bipush (v := nI 45) hx hb dX5_init_101 (by decide) ?_
  refine lv_bipush (v := nI 27) hx hb dX5_init_103 (by decide) ?_
  refine lv_iconst (v := nI 5) hx hb dX5_init_105 (by decide) ?_
  refine bd_cv (As := [.int (nI 45), .int (nI 27), .int (nI 5)]) (rest := []) C (v5_divideSmall _ _ _ _ _ hv 45 27 5 (by decide) (by decide) (by decide) (by decide) (by decide)) (cwV 3 hts gX5_init_X5_divideSmall rfl rfl rfl (by decide +kernel) ⟨Nat.le_of_ble_eq_true rfl, Nat.le_of_ble_eq_true rfl⟩) hsz hw (mv_recv C hw hv) dX5_init_106 rfl hl.1 rfl (Nat.le_of_ble_eq_true rfl) ⟨Nat.le_refl _, Nat.le_refl _⟩ (fun E z H locs hp hw => ?_)
  obtain ⟨rg, hv, hv0_, hf9⟩ := hp
  have fT0_ : rg 45 = (((2 ^ (P + 64) : Nat) : Int) / 5) := hv0_.trans (by rw [f_27]; rfl)
  have f_27 : rg 27 = ((2 ^ (P + 64) : Nat) : Int) := (hf9 27 (by decide) (by decide)).trans f_27
  have f_28 : rg 28 = ((2 ^ (P + 48) : Nat) : Int) := (hf9 28 (by decide) (by decide)).trans f_28
  have f_45 := fT0_
  have hof : ∀ j, j < 24 → rg j = rg0 j := fun j hj => (hf9 j (hqi_2 hj) (hqi_3 hj)).trans (hof j hj)
  refine lv_aload_n hx hb dX5_init_109 rfl (lv_at hl 0 rfl) ?_
  refine lv_bipush (v := nI 45) hx hb dX5_init_110 (by decide) ?_
  refine lv_bipush (v := nI 45) hx hb dX5_init_112 (by decide) ?_
  refine lv_iconst (v := nI 1) hx hb dX5_init_114 (by decide) ?_
  refine bd_cv (As := [.int (nI 45), .int (nI 45), .int (nI 1)]) (rest := []) C (v5_row _ _ _ _ _ hv 45 45 1 (by decide) (by decide) (Or.inr rfl) (by rw [f_45]; exact h5)) (cwV 3 hts gX5_init_X5_row rfl rfl rfl (by decide +kernel) ⟨Nat.le_of_ble_eq_true rfl, Nat.le_of_ble_eq_true rfl⟩) hsz hw (mv_recv C hw hv) dX5_init_115 rfl hl.1 rfl (Nat.le_of_ble_eq_true rfl) ⟨Nat.le_refl _, Nat.le_refl _⟩ (fun E z H locs hp hw => ?_)
  obtain ⟨rg, hv, hv0_, hf9⟩ := hp
  have fT0_ : rg 45 = (sp_RW 1 ((2 ^ (P + 64) : Nat) : Int) (((2 ^ (P + 64) : Nat) : Int) / 5)) := hv0_.trans (by rw [f_45])
  have f_27 : rg 27 = ((2 ^ (P + 64) : Nat) : Int) := (hf9 27 (by decide)).trans f_27
  have f_28 : rg 28 = ((2 ^ (P + 48) : Nat) : Int) := (hf9 28 (by decide)).trans f_28
  have f_45 := fT0_
  have hof : ∀ j, j < 24 → rg j = rg0 j := fun j hj => (hf9 j (hqi_4 hj)).trans (hof j hj)
  refine lv_aload_n hx hb dX5_init_118 rfl (lv_at hl 0 rfl) ?_
  refine lv_bipush (v := nI 45) hx hb dX5_init_119 (by decide) ?_
  refine lv_bipush (v := nI 45) hx hb dX5_init_121 (by decide) ?_
  refine lv_bipush (v := nI 16) hx hb dX5_init_123 (by decide) ?_
  refine bd_cv (As := [.int (nI 45), .int (nI 45), .int (nI 16)]) (rest := []) C (v5_timesSmall _ _ _ _ _ hv 45 45 (nI 16) (by decide) (by decide) (by decide) (by rw [f_45]; exact (b34 (Nat.le_trans (mul_b hR5 (show (nI 16).toInt.natAbs ≤ 16 by decide)) (by decide +kernel))))) (cwV 3 hts gX5_init_X5_timesSmall rfl rfl rfl (by decide +kernel) ⟨Nat.le_of_ble_eq_true rfl, Nat.le_of_ble_eq_true rfl⟩) hsz hw (mv_recv C hw hv) dX5_init_125 rfl hl.1 rfl (Nat.le_of_ble_eq_true rfl) ⟨Nat.le_refl _, Nat.le_refl _⟩ (fun E z H locs hp hw => ?_)
  obtain ⟨rg, hv, hv0_, hf9⟩ := hp
  have fT0_ : rg 45 = ((sp_RW 1 ((2 ^ (P + 64) : Nat) : Int) (((2 ^ (P + 64) : Nat) : Int) / 5)) * 16) := hv0_.trans (by rw [f_45]; rfl)
  have f_27 : rg 27 = ((2 ^ (P + 64) : Nat) : Int) := (hf9 27 (by decide) (by decide)).trans f_27
  have f_28 : rg 28 = ((2 ^ (P + 48) : Nat) : Int) := (hf9 28 (by decide) (by decide)).trans f_28
  have f_45 := fT0_
  have hof : ∀ j, j < 24 → rg j = rg0 j := fun j hj => (hf9 j (hqi_2 hj) (hqi_3 hj)).trans (hof j hj)
  refine lv_aload_n hx hb dX5_init_128 rfl (lv_at hl 0 rfl) ?_
  refine lv_bipush (v := nI 46) hx hb dX5_init_129 (by decide) ?_
  refine lv_bipush (v := nI 27) hx hb dX5_init_131 (by decide) ?_
  refine lv_sipush (v := nI 239) hx hb dX5_init_133 (by decide) ?_
  refine bd_cv (As := [.int (nI 46), .int (nI 27), .int (nI 239)]) (rest := []) C (v5_divideSmall _ _ _ _ _ hv 46 27 239 (by decide) (by decide) (by decide) (by decide) (by decide)) (cwV 3 hts gX5_init_X5_divideSmall rfl rfl rfl (by decide +kernel) ⟨Nat.le_of_ble_eq_true rfl, Nat.le_of_ble_eq_true rfl⟩) hsz hw (mv_recv C hw hv) dX5_init_136 rfl hl.1 rfl (Nat.le_of_ble_eq_true rfl) ⟨Nat.le_refl _, Nat.le_refl _⟩ (fun E z H locs hp hw => ?_)
  obtain ⟨rg, hv, hv0_, hf9⟩ := hp
  have fT0_ : rg 46 = (((2 ^ (P + 64) : Nat) : Int) / 239) := hv0_.trans (by rw [f_27]; rfl)
  have f_27 : rg 27 = ((2 ^ (P + 64) : Nat) : Int) := (hf9 27 (by decide) (by decide)).trans f_27
  have f_28 : rg 28 = ((2 ^ (P + 48) : Nat) : Int) := (hf9 28 (by decide) (by decide)).trans f_28
  have f_45 : rg 45 = ((sp_RW 1 ((2 ^ (P + 64) : Nat) : Int) (((2 ^ (P + 64) : Nat) : Int) / 5)) * 16) := (hf9 45 (by decide) (by decide)).trans f_45
  have f_46 := fT0_
  have hof : ∀ j, j < 24 → rg j = rg0 j := fun j hj => (hf9 j (hqi_5 hj) (hqi_3 hj)).trans (hof j hj)
  refine lv_aload_n hx hb dX5_init_139 rfl (lv_at hl 0 rfl) ?_
  refine lv_bipush (v := nI 46) hx hb dX5_init_140 (by decide) ?_
  refine lv_bipush (v := nI 46) hx hb dX5_init_142 (by decide) ?_
  refine lv_iconst (v := nI 1) hx hb dX5_init_144 (by decide) ?_
  refine bd_cv (As := [.int (nI 46), .int (nI 46), .int (nI 1)]) (rest := []) C (v5_row _ _ _ _ _ hv 46 46 1 (by decide) (by decide) (Or.inr rfl) (by rw [f_46]; exact h239)) (cwV 3 hts gX5_init_X5_row rfl rfl rfl (by decide +kernel) ⟨Nat.le_of_ble_eq_true rfl, Nat.le_of_ble_eq_true rfl⟩) hsz hw (mv_recv C hw hv) dX5_init_145 rfl hl.1 rfl (Nat.le_of_ble_eq_true rfl) ⟨Nat.le_refl _, Nat.le_refl _⟩ (fun E z H locs hp hw => ?_)
  obtain ⟨rg, hv, hv0_, hf9⟩ := hp
  have fT0_ : rg 46 = (sp_RW 1 ((2 ^ (P + 64) : Nat) : Int) (((2 ^ (P + 64) : Nat) : Int) / 239)) := hv0_.trans (by rw [f_46])
  have f_27 : rg 27 = ((2 ^ (P + 64) : Nat) : Int) := (hf9 27 (by decide)).trans f_27
  have f_28 : rg 28 = ((2 ^ (P + 48) : Nat) : Int) := (hf9 28 (by decide)).trans f_28
  have f_45 : rg 45 = ((sp_RW 1 ((2 ^ (P + 64) : Nat) : Int) (((2 ^ (P + 64) : Nat) : Int) / 5)) * 16) := (hf9 45 (by decide)).trans f_45
  have f_46 := fT0_
  have hof : ∀ j, j < 24 → rg j = rg0 j := fun j hj => (hf9 j (hqi_6 hj)).trans (hof j hj)
  refine lv_aload_n hx hb dX5_init_148 rfl (lv_at hl 0 rfl) ?_
  refine lv_bipush (v := nI 46) hx hb dX5_init_149 (by decide) ?_
  refine lv_bipush (v := nI 46) hx hb dX5_init_151 (by decide) ?_
  refine lv_iconst (v := nI 4) hx hb dX5_init_153 (by decide) ?_
  refine bd_cv (As := [.int (nI 46), .int (nI 46), .int (nI 4)]) (rest := []) C (v5_timesSmall _ _ _ _ _ hv 46 46 (nI 4) (by decide) (by decide) (by decide) (by rw [f_46]; exact (b34 (Nat.le_trans (mul_b hR2 (show (nI 4).toInt.natAbs ≤ 4 by decide)) (by decide +kernel))))) (cwV 3 hts gX5_init_X5_timesSmall rfl rfl rfl (by decide +kernel) ⟨Nat.le_of_ble_eq_true rfl, Nat.le_of_ble_eq_true rfl⟩) hsz hw (mv_recv C hw hv) dX5_init_154 rfl hl.1 rfl (Nat.le_of_ble_eq_true rfl) ⟨Nat.le_refl _, Nat.le_refl _⟩ (fun E z H locs hp hw => ?_)
  obtain ⟨rg, hv, hv0_, hf9⟩ := hp
  have fT0_ : rg 46 = ((sp_RW 1 ((2 ^ (P + 64) : Nat) : Int) (((2 ^ (P + 64) : Nat) : Int) / 239)) * 4) := hv0_.trans (by rw [f_46]; rfl)
  have f_27 : rg 27 = ((2 ^ (P + 64) : Nat) : Int) := (hf9 27 (by decide) (by decide)).trans f_27
  have f_28 : rg 28 = ((2 ^ (P + 48) : Nat) : Int) := (hf9 28 (by decide) (by decide)).trans f_28
  have f_45 : rg 45 = ((sp_RW 1 ((2 ^ (P + 64) : Nat) : Int) (((2 ^ (P + 64) : Nat) : Int) / 5)) * 16) := (hf9 45 (by decide) (by decide)).trans f_45
  have f_46 := fT0_
  have hof : ∀ j, j < 24 → rg j = rg0 j := fun j hj => (hf9 j (hqi_5 hj) (hqi_3 hj)).trans (hof j hj)
  refine lv_aload_n hx hb dX5_init_157 rfl (lv_at hl 0 rfl) ?_
  refine lv_bipush (v := nI 26) hx hb dX5_init_158 (by decide) ?_
  refine lv_bipush (v := nI 45) hx hb dX5_init_160 (by decide) ?_
  refine lv_bipush (v := nI 46) hx hb dX5_init_162 (by decide) ?_
  refine bd_cv (As := [.int (nI 26), .int (nI 45), .int (nI 46)]) (rest := []) C (v5_minus _ _ _ _ _ hv 26 45 46 (by decide) (by decide) (by decide) (by rw [f_45, f_46]; exact (b34 (Nat.le_trans (sub_b (mul_b hR5 (show (16 : Int).natAbs ≤ 16 by decide)) (mul_b hR2 (show (4 : Int).natAbs ≤ 4 by decide))) (by decide +kernel))))) (cwV 3 hts gX5_init_X5_minus rfl rfl rfl (by decide +kernel) ⟨Nat.le_of_ble_eq_true rfl, Nat.le_of_ble_eq_true rfl⟩) hsz hw (mv_recv C hw hv) dX5_init_164 rfl hl.1 rfl (Nat.le_of_ble_eq_true rfl) ⟨Nat.le_refl _, Nat.le_refl _⟩ (fun E z H locs hp hw => ?_)
  obtain ⟨rg, hv, hv0_, hf9⟩ := hp
  have fT0_ : rg 26 = (sp_PI (P + 64)) := hv0_.trans (by rw [f_45, f_46]; rfl)
  have f_27 : rg 27 = ((2 ^ (P + 64) : Nat) : Int) := (hf9 27 (by decide)).trans f_27
  have f_28 : rg 28 = ((2 ^ (P + 48) : Nat) : Int) := (hf9 28 (by decide)).trans f_28
  have f_45 : rg 45 = ((sp_RW 1 ((2 ^ (P + 64) : Nat) : Int) (((2 ^ (P + 64) : Nat) : Int) / 5)) * 16) := (hf9 45 (by decide)).trans f_45
  have f_46 : rg 46 = ((sp_RW 1 ((2 ^ (P + 64) : Nat) : Int) (((2 ^ (P + 64) : Nat) : Int) / 239)) * 4) := (hf9 46 (by decide)).trans f_46
  have f_26 := fT0_
  have hof : ∀ j, j < 24 → rg j = rg0 j := fun j hj => (hf9 j (hqi_7 hj)).trans (hof j hj)
  have hw : np_W D (ix_L ad1 5) E (np_A (ix_L ad 1) sz) s.heap H locs := by
    unfold bd_W at hw
    rw [← hA, np_e0] at hw
    exact hw
  exact np_vret Cn hr hlk hw dX5_init_167 ⟨ad1, fun i hi => by rw [show i = 0 by omega]; exact a0, rfl, fun i h1 h2 => absurd h1 (by omega), rg, hv, f_26, f_27, f_28, fun k hk => ⟨(hof k (by omega)).trans (hall k), (hof (12 + k) (by omega)).trans (hall _), Nat.zero_le _, Int.le_refl _, Nat.zero_le _⟩⟩
