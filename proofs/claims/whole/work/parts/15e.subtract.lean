/-! Whole.subtract (laid by wip/gen/m_whole5.py) -/
set_option maxHeartbeats 4000000 in
set_option maxRecDepth 100000 in
/-- Whole.subtract(x, y), x not the lesser one -/
theorem c3_subtract (l : Launch) (K : Cxt) (E : Nat → va_E) (z0 : Nat → Wh) (sz h : Nat) (x y : Nat) (hh : h ∈ bd_N K) (hmx : x ∈ bd_N K) (hmy : y ∈ bd_N K) {n nx ny : Nat} {g gx gy : Int32} {f fx fy : Nat → Nat} (hz : z0 h = (n, g, f)) (hzx : z0 x = (nx, gx, fx)) (hzy : z0 y = (ny, gy, fy)) (hf : q_r f) (h24x : nx ≤ 24) (h24y : ny ≤ 24) (hfx : q_r fx) (hfy : q_r fy) (hny : ny ≤ nx) (hle : q_s fy ny ≤ q_s fx nx) : Met l yX3_subtract wsX3_subtract ({ frames := 0, cells := 0, slots := 0, locals := 0 }) (va_Pc [.ref h, .ref x, .ref y] (bd_P K E z0 sz)) (va_Qi (fun r u => ∃ (n1 : Nat) (f1 : Nat → Nat), r = nI n1 ∧ n1 ≤ 24 ∧ q_r f1 ∧ q_s f1 n1 = q_s fx nx - q_s fy ny ∧ u.1 = E ∧ u.2 h = (n, g, f1) ∧ ∀ b, b ≠ h → u.2 b = z0 b) (bd_B K) (bd_A K sz)) 0 0 (bd_A K sz) := by
  refine bd_ofW (cc := cX3_subtract) (maxL := 9) (ret := (some .int)) (by decide) rfl (Nat.le_of_ble_eq_true rfl) ?_
  intro p e s m below meth c ls C hr hlk hsz hw hl
  have hx := C.1
  have hb := C.2.1
  have hown := C.2.2.2.1
  have hts := C.2.2.2.2.1
  have i3 : ∀ w ∈ wsX30, w ∈ wsX3_subtract := by decide +kernel
  have lk17 : Cond.fieldLink RX3 17 "BallDesk$Whole" "size" "I" ∈ wsX3_subtract := by decide +kernel
  have lk9 : Cond.fieldLink RX3 9 "BallDesk$Whole" "row" "[J" ∈ wsX3_subtract := by decide +kernel
  have lk30 : Cond.constantLong RX3 30 (4294967295) ∈ wsX3_subtract := by decide +kernel
  have ho : ∀ b, b ≠ h → z0 b = z0 b := fun _ _ => rfl
  have hl : lv_has ls 9 [(0, .ref h), (1, .ref x), (2, .ref y)] := hl
  refine lv_aload_n hx hb dX3_subtract_0 rfl (lv_at hl 1 rfl) ?_
  refine bd_gsz C i3 hw hmx hzx dX3_subtract_1 lk17 ?_
  refine lv_istore_n (lv' := [(3, .int (nI nx)), (0, .ref h), (1, .ref x), (2, .ref y)]) hx hb dX3_subtract_4 rfl hl (by decide) rfl (fun ls hl => ?_)
  refine lv_lconst (v := lN 0) hx hb dX3_subtract_5 rfl ?_
  refine lv_lstore (lv' := [(4, .long (lN 0)), (3, .int (nI nx)), (0, .ref h), (1, .ref x), (2, .ref y)]) hx hb dX3_subtract_6 hl (by decide) rfl (fun ls hl => ?_)
  refine lv_iconst (v := nI 0) hx hb dX3_subtract_8 (by decide) ?_
  refine lv_istore (lv' := [(6, .int (nI 0)), (4, .long (lN 0)), (3, .int (nI nx)), (0, .ref h), (1, .ref x), (2, .ref y)]) hx hb dX3_subtract_9 hl (by decide) rfl (fun ls hl => ?_)
  suffices hloop : ∀ (d i : Nat) (z : Nat → Wh) (ls : Array Slot) (H : Heap) (locs : List Loc) (fh fx1 fy1 : Nat → Nat), i + d = nx → z h = (n, g, fh) → z x = (nx, gx, fx1) → z y = (ny, gy, fy1) → q_r fh → (∀ j, i ≤ j → fx1 j = fx j) → (∀ j, i ≤ j → fy1 j = fy j) → (∀ j, j < i → fh j = q_df (q_pd nx fx) (q_pd ny fy) j) → (∀ b, b ≠ h → z b = z0 b) → lv_has ls 9 [(6, .int (nI i)), (4, .long (lN (q_br (q_pd nx fx) (q_pd ny fy) i))), (3, .int (nI nx)), (0, .ref h), (1, .ref x), (2, .ref y)] → bd_W K E z (bd_A K sz) s.heap H locs → W p l e (headSpec wsX3_subtract ({ frames := 0, cells := 0, slots := 0, locals := 0 })).room s m [.ref h, .ref x, .ref y].toArray below meth c H locs 0 0 (MQ below (va_Qi (fun r u => ∃ (n1 : Nat) (f1 : Nat → Nat), r = nI n1 ∧ n1 ≤ 24 ∧ q_r f1 ∧ q_s f1 n1 = q_s fx nx - q_s fy ny ∧ u.1 = E ∧ u.2 h = (n, g, f1) ∧ ∀ b, b ≠ h → u.2 b = z0 b) (bd_B K) (bd_A K sz)) [.ref h, .ref x, .ref y].toArray s 0 0 (bd_A K sz)) (F0 m 11 ls []) from hloop nx 0 z0 ls _ _ f fx fy (by omega) hz hzx hzy hf (fun _ _ => rfl) (fun _ _ => rfl) (fun j hj => absurd hj (by omega)) ho (lv_sub hl [0, 1, 2, 3, 4, 5] rfl) hw
  clear hw hl ls ho
  intro d
  induction d using Nat.strongRecOn with
  | ind d ih =>
    intro i z ls H locs fh fx1 fy1 hid hz1 hzx1 hzy1 hrh hex hey hR ho hl hw
    have hXi := q_pd_lt hfx h24x i
    have hYi := q_pd_lt hfy h24y i
    have hci := q_br_le (q_pd nx fx) (q_pd ny fy) i
    have hu := q_du_lt (y := (q_pd ny fy)) (q_pd_lt hfx h24x) i
    refine lv_iload hx hb dX3_subtract_11 (lv_at hl 0 rfl) ?_
    refine lv_iload_n hx hb dX3_subtract_13 rfl (lv_at hl 2 rfl) ?_
    refine bd_ige (h1 := (by omega)) (h2 := (by omega)) (tgt := 83) hx hb dX3_subtract_14 (by decide) (fun hc14 => ?_) (fun hc14 => ?_)
    · have hi : i = nx := by omega
      rw [hi] at hR
      have hg := q_diff hfx hfy h24x hny hle hR
      refine lv_iload_n hx hb dX3_subtract_83 rfl (lv_at hl 2 rfl) ?_
      exact bd_iret C hr hlk hw dX3_subtract_84 ⟨nx, fh, rfl, h24x, hrh, hg, rfl, hz1, ho⟩
    · refine lv_aload_n hx hb dX3_subtract_17 rfl (lv_at hl 4 rfl) ?_
      refine bd_grw C i3 hw hmx hzx1 dX3_subtract_18 lk9 ?_
      refine lv_iload hx hb dX3_subtract_21 (lv_at hl 0 rfl) ?_
      refine bd_ald C hw hmx hzx1 dX3_subtract_23 (by omega) ?_
      rw [show fx1 i = (q_pd nx fx) i from ((q_pd_in (by omega)).trans (hex i (Nat.le_refl i)).symm).symm]
      suffices hj44 : W p l e (headSpec wsX3_subtract ({ frames := 0, cells := 0, slots := 0, locals := 0 })).room s m [.ref h, .ref x, .ref y].toArray below meth c H locs 0 0 (MQ below (va_Qi (fun r u => ∃ (n1 : Nat) (f1 : Nat → Nat), r = nI n1 ∧ n1 ≤ 24 ∧ q_r f1 ∧ q_s f1 n1 = q_s fx nx - q_s fy ny ∧ u.1 = E ∧ u.2 h = (n, g, f1) ∧ ∀ b, b ≠ h → u.2 b = z0 b) (bd_B K) (bd_A K sz)) [.ref h, .ref x, .ref y].toArray s 0 0 (bd_A K sz)) (F0 m 44 ls [.long (lN ((q_pd ny fy) i)), .long (lN ((q_pd nx fx) i))]) by
        refine lv_iload hx hb dX3_subtract_24 (lv_at hl 0 rfl) ?_
        refine lv_aload_n hx hb dX3_subtract_26 rfl (lv_at hl 5 rfl) ?_
        refine bd_gsz C i3 hw hmy hzy1 dX3_subtract_27 lk17 ?_
        refine bd_ige (h1 := (by omega)) (h2 := (by omega)) (tgt := 43) hx hb dX3_subtract_30 (by decide) (fun hc30 => ?_) (fun hc30 => ?_)
        · refine lv_lconst (v := lN 0) hx hb dX3_subtract_43 rfl ?_
          rw [show (q_pd ny fy) i = 0 from q_pd_out hc30] at hj44
          exact hj44
        · refine lv_aload_n hx hb dX3_subtract_33 rfl (lv_at hl 5 rfl) ?_
          refine bd_grw C i3 hw hmy hzy1 dX3_subtract_34 lk9 ?_
          refine lv_iload hx hb dX3_subtract_37 (lv_at hl 0 rfl) ?_
          refine bd_ald C hw hmy hzy1 dX3_subtract_39 (by omega) ?_
          refine lv_goto (tgt := 44) hx hb dX3_subtract_40 (by decide) ?_
          rw [show (q_pd ny fy) i = fy1 i from (q_pd_in hc30).trans (hey i (Nat.le_refl i)).symm] at hj44
          exact hj44
      refine bd_lsub (v := (lN ((q_pd nx fx) i) - lN ((q_pd ny fy) i))) hx hb dX3_subtract_44 (rfl) ?_
      refine lv_lload hx hb dX3_subtract_45 (lv_at hl 1 rfl) ?_
      refine bd_lsub (v := (lN (q_du (q_pd nx fx) (q_pd ny fy) i))) hx hb dX3_subtract_47 (bd_lsubN _ _ _ hXi hYi hci) ?_
      refine lv_lstore (lv' := [(7, .long (lN (q_du (q_pd nx fx) (q_pd ny fy) i))), (6, .int (nI i)), (4, .long (lN (q_br (q_pd nx fx) (q_pd ny fy) i))), (3, .int (nI nx)), (0, .ref h), (1, .ref x), (2, .ref y)]) hx hb dX3_subtract_48 hl (by decide) rfl (fun ls hl => ?_)
      refine lv_aload_n hx hb dX3_subtract_50 rfl (lv_at hl 4 rfl) ?_
      refine bd_grw C i3 hw hh hz1 dX3_subtract_51 lk9 ?_
      refine lv_iload hx hb dX3_subtract_54 (lv_at hl 1 rfl) ?_
      refine lv_lload hx hb dX3_subtract_56 (lv_at hl 0 rfl) ?_
      refine lv_ldc2 (v := lN 4294967295) hx hb hown (hts _ lk30) dX3_subtract_58 ?_
      refine bd_land (v := (lN (q_df (q_pd nx fx) (q_pd ny fy) i))) hx hb dX3_subtract_61 ((bd_m32 hu).trans (by rw [q_du_df (q_pd_lt hfx h24x) (q_pd_lt hfy h24y)])) ?_
      refine bd_ast C hw hh hz1 dX3_subtract_62 (by omega) (fun z H locs hz9 hfr hw => ?_)
      obtain ⟨fx2, hzx2, hx2⟩ := bd_al hz1 hz9 hfr hzx1
      obtain ⟨fy2, hzy2, hy2⟩ := bd_al hz1 hz9 hfr hzy1
      have hz1 := hz9
      have ho := bd_tr hfr ho
      suffices hj75 : W p l e (headSpec wsX3_subtract ({ frames := 0, cells := 0, slots := 0, locals := 0 })).room s m [.ref h, .ref x, .ref y].toArray below meth c H locs 0 0 (MQ below (va_Qi (fun r u => ∃ (n1 : Nat) (f1 : Nat → Nat), r = nI n1 ∧ n1 ≤ 24 ∧ q_r f1 ∧ q_s f1 n1 = q_s fx nx - q_s fy ny ∧ u.1 = E ∧ u.2 h = (n, g, f1) ∧ ∀ b, b ≠ h → u.2 b = z0 b) (bd_B K) (bd_A K sz)) [.ref h, .ref x, .ref y].toArray s 0 0 (bd_A K sz)) (F0 m 75 ls [.long (lN (q_br (q_pd nx fx) (q_pd ny fy) (i + 1)))]) by
        refine lv_lload hx hb dX3_subtract_63 (lv_at hl 0 rfl) ?_
        refine lv_lconst (v := lN 0) hx hb dX3_subtract_65 rfl ?_
        refine bd_lsg (tgt := 74) hx hb dX3_subtract_66 dX3_subtract_67 (by decide) (fun hc66 => ?_) (fun hc66 => ?_)
        · refine lv_lconst (v := lN 0) hx hb dX3_subtract_74 rfl ?_
          rw [bd_lt0 hu, q_du_br (q_pd_lt hfx h24x) (q_pd_lt hfy h24y)] at hc66
          rw [q_br_0 hc66] at hj75
          exact hj75
        · refine lv_lconst (v := lN 1) hx hb dX3_subtract_70 rfl ?_
          refine lv_goto (tgt := 75) hx hb dX3_subtract_71 (by decide) ?_
          rw [bd_lt0 hu, q_du_br (q_pd_lt hfx h24x) (q_pd_lt hfy h24y)] at hc66
          rw [hc66] at hj75
          exact hj75
      refine lv_lstore (lv' := [(4, .long (lN (q_br (q_pd nx fx) (q_pd ny fy) (i + 1)))), (7, .long (lN (q_du (q_pd nx fx) (q_pd ny fy) i))), (6, .int (nI i)), (3, .int (nI nx)), (0, .ref h), (1, .ref x), (2, .ref y)]) hx hb dX3_subtract_75 hl (by decide) rfl (fun ls hl => ?_)
      refine lv_iinc (v := (nI (i + 1))) (lv' := [(6, .int (nI (i + 1))), (4, .long (lN (q_br (q_pd nx fx) (q_pd ny fy) (i + 1)))), (7, .long (lN (q_du (q_pd nx fx) (q_pd ny fy) i))), (3, .int (nI nx)), (0, .ref h), (1, .ref x), (2, .ref y)]) hx hb dX3_subtract_77 hl (k := 2) rfl (nI_1 _) (by decide) rfl (fun ls hl => ?_)
      refine lv_goto (tgt := 11) hx hb dX3_subtract_80 (by decide) ?_
      exact ih (d - 1) (by omega) (i + 1) z ls H locs _ _ _ (by omega) hz1 hzx2 hzy2 (q_r_up hrh (q_df_lt (q_pd_lt hfx h24x) i)) (fun j hj => (hx2 j (by omega)).trans (hex j (by omega))) (fun j hj => (hy2 j (by omega)).trans (hey j (by omega))) (fun j hj => if q : j = i then by rw [q, va_up_self] else by rw [va_up_ne _ _ q]; exact hR j (by omega)) ho (lv_sub hl [0, 1, 3, 4, 5, 6] rfl) hw
