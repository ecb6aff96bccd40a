/-! Whole.trim (laid by wip/gen/m_whole2.py) -/
set_option maxHeartbeats 4000000 in
set_option maxRecDepth 100000 in
/-- Whole.trim(n1): the zeros on top are dropped -/
theorem c3_trim (l : Launch) (K : Cxt) (E : Nat → va_E) (z0 : Nat → Wh) (sz h : Nat) (n1 : Nat) (hh : h ∈ bd_N K) {n : Nat} {g : Int32} {f : Nat → Nat} (hz : z0 h = (n, g, f)) (h24 : n1 ≤ 24) (hf : q_r f) : Met l yX3_trim wsX3_trim ({ frames := 0, cells := 0, slots := 0, locals := 0 }) (va_Pc [.ref h, .int (nI n1)] (bd_P K E z0 sz)) (va_Qv (fun u => u.1 = E ∧ u.2 h = (q_tr f n1, (if q_tr f n1 = 0 then 0 else g), f) ∧ ∀ b, b ≠ h → u.2 b = z0 b) (bd_B K) (bd_A K sz)) 0 0 (bd_A K sz) := by
  refine bd_ofW (cc := cX3_trim) (maxL := 2) (ret := none) (by decide) rfl (Nat.le_of_ble_eq_true rfl) ?_
  intro p e s m below meth c ls C hr hlk hsz hw hl
  have hx := C.1
  have hb := C.2.1
  have hown := C.2.2.2.1
  have hts := C.2.2.2.2.1
  have i3 : ∀ w ∈ wsX30, w ∈ wsX3_trim := by decide +kernel
  have lk17 : Cond.fieldLink RX3 17 "BallDesk$Whole" "size" "I" ∈ wsX3_trim := by decide +kernel
  have lk13 : Cond.fieldLink RX3 13 "BallDesk$Whole" "sign" "I" ∈ wsX3_trim := by decide +kernel
  have lk9 : Cond.fieldLink RX3 9 "BallDesk$Whole" "row" "[J" ∈ wsX3_trim := by decide +kernel
  have ho : ∀ b, b ≠ h → z0 b = z0 b := fun _ _ => rfl
  have hl : lv_has ls 2 [(0, .ref h), (1, .int (nI n1))] := hl
  refine lv_aload_n hx hb dX3_trim_0 rfl (lv_at hl 0 rfl) ?_
  refine lv_iload_n hx hb dX3_trim_1 rfl (lv_at hl 1 rfl) ?_
  refine bd_psz C i3 hw hh hz dX3_trim_2 lk17 (fun z H locs hz hfr hw => ?_)
  have hz : z h = (n1, g, f) := hz
  have ho := bd_tr hfr ho
  suffices hloop : ∀ (k : Nat) (z : Nat → Wh) (H : Heap) (locs : List Loc), k ≤ 24 → q_tr f k = q_tr f n1 → z h = (k, g, f) → (∀ b, b ≠ h → z b = z0 b) → bd_W K E z (bd_A K sz) s.heap H locs → W p l e (headSpec wsX3_trim ({ frames := 0, cells := 0, slots := 0, locals := 0 })).room s m [.ref h, .int (nI n1)].toArray below meth c H locs 0 0 (MQ below (va_Qv (fun u => u.1 = E ∧ u.2 h = (q_tr f n1, (if q_tr f n1 = 0 then 0 else g), f) ∧ ∀ b, b ≠ h → u.2 b = z0 b) (bd_B K) (bd_A K sz)) [.ref h, .int (nI n1)].toArray s 0 0 (bd_A K sz)) (F0 m 5 ls []) from hloop n1 z H locs h24 rfl hz ho hw
  clear hw hz ho
  intro k
  induction k using Nat.strongRecOn with
  | ind k ih =>
    intro z H locs hk ht hz ho hw
    refine lv_aload_n hx hb dX3_trim_5 rfl (lv_at hl 0 rfl) ?_
    refine bd_gsz C i3 hw hh hz dX3_trim_6 lk17 ?_
    refine bd_zle (h1 := (by omega)) (tgt := 41) hx hb dX3_trim_9 (by decide) (fun hc9 => ?_) (fun hc9 => ?_)
    · have hT : q_tr f k = k := by rw [hc9]; rfl
      refine lv_aload_n hx hb dX3_trim_41 rfl (lv_at hl 0 rfl) ?_
      refine bd_gsz C i3 hw hh hz dX3_trim_42 lk17 ?_
      refine bd_zne (h1 := (by omega)) (tgt := 53) hx hb dX3_trim_45 (by decide) (fun hc45 => ?_) (fun hc45 => ?_)
      · exact bd_vret C hr hlk hw dX3_trim_53 ⟨rfl, hz.trans (by rw [← ht, hT, if_neg (by omega)]), ho⟩
      · refine lv_aload_n hx hb dX3_trim_48 rfl (lv_at hl 0 rfl) ?_
        refine lv_iconst (v := 0) hx hb dX3_trim_49 (by decide) ?_
        refine bd_psg C i3 hw hh hz dX3_trim_50 lk13 (fun z H locs hz hfr hw => ?_)
        have hz : z h = (k, 0, f) := hz
        have ho := bd_tr hfr ho
        exact bd_vret C hr hlk hw dX3_trim_53 ⟨rfl, hz.trans (by rw [← ht, hT, hc45]; rfl), ho⟩
    · refine lv_aload_n hx hb dX3_trim_12 rfl (lv_at hl 0 rfl) ?_
      refine bd_grw C i3 hw hh hz dX3_trim_13 lk9 ?_
      refine lv_aload_n hx hb dX3_trim_16 rfl (lv_at hl 0 rfl) ?_
      refine bd_gsz C i3 hw hh hz dX3_trim_17 lk17 ?_
      refine lv_iconst (v := nI 1) hx hb dX3_trim_20 (by decide) ?_
      refine bd_isub (v := (nI (k - 1))) hx hb dX3_trim_21 (bd_sub1 hc9) ?_
      refine bd_ald C hw hh hz dX3_trim_22 (by omega) ?_
      refine lv_lconst (v := lN 0) hx hb dX3_trim_23 rfl ?_
      refine bd_lne (h1 := (Nat.lt_trans (hf _ (by omega)) (by decide))) (h2 := (by decide)) (tgt := 41) hx hb dX3_trim_24 dX3_trim_25 (by decide) (fun hc24 => ?_) (fun hc24 => ?_)
      · have hT : q_tr f k = k := q_tr_stop hc9 hc24
        refine lv_aload_n hx hb dX3_trim_41 rfl (lv_at hl 0 rfl) ?_
        refine bd_gsz C i3 hw hh hz dX3_trim_42 lk17 ?_
        refine bd_zne (h1 := (by omega)) (tgt := 53) hx hb dX3_trim_45 (by decide) (fun hc45 => ?_) (fun hc45 => ?_)
        · exact bd_vret C hr hlk hw dX3_trim_53 ⟨rfl, hz.trans (by rw [← ht, hT, if_neg (by omega)]), ho⟩
        · refine lv_aload_n hx hb dX3_trim_48 rfl (lv_at hl 0 rfl) ?_
          refine lv_iconst (v := 0) hx hb dX3_trim_49 (by decide) ?_
          refine bd_psg C i3 hw hh hz dX3_trim_50 lk13 (fun z H locs hz hfr hw => ?_)
          have hz : z h = (k, 0, f) := hz
          have ho := bd_tr hfr ho
          exact bd_vret C hr hlk hw dX3_trim_53 ⟨rfl, hz.trans (by rw [← ht, hT, hc45]; rfl), ho⟩
      · refine lv_aload_n hx hb dX3_trim_28 rfl (lv_at hl 0 rfl) ?_
        refine lv_dup hx hb dX3_trim_29 rfl ?_
        refine bd_gsz C i3 hw hh hz dX3_trim_30 lk17 ?_
        refine lv_iconst (v := nI 1) hx hb dX3_trim_33 (by decide) ?_
        refine bd_isub (v := (nI (k - 1))) hx hb dX3_trim_34 (bd_sub1 hc9) ?_
        refine bd_psz C i3 hw hh hz dX3_trim_35 lk17 (fun z H locs hz hfr hw => ?_)
        have hz : z h = ((k - 1), g, f) := hz
        have ho := bd_tr hfr ho
        refine lv_goto (tgt := 5) hx hb dX3_trim_38 (by decide) ?_
        exact ih (k - 1) (by omega) z H locs (by omega) ((q_tr_step hc9 hc24).symm.trans ht) hz ho hw
