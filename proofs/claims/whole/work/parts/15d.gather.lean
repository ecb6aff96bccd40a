/-! Whole.gather (laid by wip/gen/m_whole4.py) -/
set_option maxHeartbeats 4000000 in
set_option maxRecDepth 100000 in
/-- Whole.gather(x, y) -/
theorem c3_gather (l : Launch) (K : Cxt) (E : Nat → va_E) (z0 : Nat → Wh) (sz h : Nat) (x y : Nat) (hh : h ∈ bd_N K) (hmx : x ∈ bd_N K) (hmy : y ∈ bd_N K) {n nx ny : Nat} {g gx gy : Int32} {f fx fy : Nat → Nat} (hz : z0 h = (n, g, f)) (hzx : z0 x = (nx, gx, fx)) (hzy : z0 y = (ny, gy, fy)) (hf : q_r f) (h24x : nx ≤ 24) (h24y : ny ≤ 24) (hfx : q_r fx) (hfy : q_r fy) (hs : q_s fx nx + q_s fy ny < 4294967296 ^ 24) : Met l yX3_gather wsX3_gather ({ frames := 1, cells := 0, slots := 0, locals := 30 }) (va_Pc [.ref h, .ref x, .ref y] (bd_P K E z0 sz)) (va_Qi (fun r u => ∃ (n1 : Nat) (f1 : Nat → Nat), r = nI n1 ∧ n1 ≤ 24 ∧ q_r f1 ∧ q_s f1 n1 = q_s fx nx + q_s fy ny ∧ u.1 = E ∧ u.2 h = (n, g, f1) ∧ ∀ b, b ≠ h → u.2 b = z0 b) (bd_B K) (bd_A K sz)) 0 0 (bd_A K sz) := by
  refine bd_ofW (cc := cX3_gather) (maxL := 9) (ret := (some .int)) (by decide) rfl (Nat.le_of_ble_eq_true rfl) ?_
  intro p e s m below meth c ls C hr hlk hsz hw hl
  have hx := C.1
  have hb := C.2.1
  have hown := C.2.2.2.1
  have hts := C.2.2.2.2.1
  have i3 : ∀ w ∈ wsX30, w ∈ wsX3_gather := by decide +kernel
  have lk17 : Cond.fieldLink RX3 17 "BallDesk$Whole" "size" "I" ∈ wsX3_gather := by decide +kernel
  have lk9 : Cond.fieldLink RX3 9 "BallDesk$Whole" "row" "[J" ∈ wsX3_gather := by decide +kernel
  have lk30 : Cond.constantLong RX3 30 (4294967295) ∈ wsX3_gather := by decide +kernel
  have ho : ∀ b, b ≠ h → z0 b = z0 b := fun _ _ => rfl
  have hl : lv_has ls 9 [(0, .ref h), (1, .ref x), (2, .ref y)] := hl
  refine lv_aload_n hx hb dX3_gather_0 rfl (lv_at hl 1 rfl) ?_
  refine bd_gsz C i3 hw hmx hzx dX3_gather_1 lk17 ?_
  refine lv_aload_n hx hb dX3_gather_4 rfl (lv_at hl 2 rfl) ?_
  refine bd_gsz C i3 hw hmy hzy dX3_gather_5 lk17 ?_
  obtain ⟨mx, hmxe⟩ : ∃ mx, max nx ny = mx := ⟨_, rfl⟩
  refine bd_max (v := mx) C hl.1 (by omega) (by omega) hmxe dX3_gather_8 (by decide +kernel) (by decide +kernel) (by decide +kernel) (by decide +kernel) (Nat.le_of_ble_eq_true rfl) (Nat.le_of_ble_eq_true rfl) ⟨Nat.le_refl _, Nat.le_refl _⟩ ?_
  refine lv_istore_n (lv' := [(3, .int (nI mx)), (0, .ref h), (1, .ref x), (2, .ref y)]) hx hb dX3_gather_11 rfl hl (by decide) rfl (fun ls hl => ?_)
  refine lv_lconst (v := lN 0) hx hb dX3_gather_12 rfl ?_
  refine lv_lstore (lv' := [(4, .long (lN 0)), (3, .int (nI mx)), (0, .ref h), (1, .ref x), (2, .ref y)]) hx hb dX3_gather_13 hl (by decide) rfl (fun ls hl => ?_)
  refine lv_iconst (v := nI 0) hx hb dX3_gather_15 (by decide) ?_
  refine lv_istore (lv' := [(6, .int (nI 0)), (4, .long (lN 0)), (3, .int (nI mx)), (0, .ref h), (1, .ref x), (2, .ref y)]) hx hb dX3_gather_16 hl (by decide) rfl (fun ls hl => ?_)
  suffices hloop : ∀ (d i : Nat) (z : Nat → Wh) (ls : Array Slot) (H : Heap) (locs : List Loc) (fh fx1 fy1 : Nat → Nat), i + d = mx → z h = (n, g, fh) → z x = (nx, gx, fx1) → z y = (ny, gy, fy1) → q_r fh → (∀ j, i ≤ j → fx1 j = fx j) → (∀ j, i ≤ j → fy1 j = fy j) → (∀ j, j < i → fh j = q_sm (q_pd nx fx) (q_pd ny fy) j) → (∀ b, b ≠ h → z b = z0 b) → lv_has ls 9 [(6, .int (nI i)), (4, .long (lN (q_cr (q_pd nx fx) (q_pd ny fy) i))), (3, .int (nI mx)), (0, .ref h), (1, .ref x), (2, .ref y)] → bd_W K E z (bd_A K sz) s.heap H locs → W p l e (headSpec wsX3_gather ({ frames := 1, cells := 0, slots := 0, locals := 30 })).room s m [.ref h, .ref x, .ref y].toArray below meth c H locs 0 0 (MQ below (va_Qi (fun r u => ∃ (n1 : Nat) (f1 : Nat → Nat), r = nI n1 ∧ n1 ≤ 24 ∧ q_r f1 ∧ q_s f1 n1 = q_s fx nx + q_s fy ny ∧ u.1 = E ∧ u.2 h = (n, g, f1) ∧ ∀ b, b ≠ h → u.2 b = z0 b) (bd_B K) (bd_A K sz)) [.ref h, .ref x, .ref y].toArray s 0 0 (bd_A K sz)) (F0 m 18 ls []) from hloop mx 0 z0 ls _ _ f fx fy (by omega) hz hzx hzy hf (fun _ _ => rfl) (fun _ _ => rfl) (fun j hj => absurd hj (by omega)) ho (lv_sub hl [0, 1, 2, 3, 4, 5] rfl) hw
  clear hw hl ls ho
  intro d
  induction d using Nat.strongRecOn with
  | ind d ih =>
    intro i z ls H locs fh fx1 fy1 hid hz1 hzx1 hzy1 hrh hex hey hR ho hl hw
    have hmx24 : nx ≤ mx ∧ ny ≤ mx ∧ mx ≤ 24 := by omega
    have hXi := q_pd_lt hfx h24x i
    have hYi := q_pd_lt hfy h24y i
    have hci := q_cr_le (q_pd_lt hfx h24x) (q_pd_lt hfy h24y) i
    have hu : ((q_pd nx fx) i + (q_pd ny fy) i + (q_cr (q_pd nx fx) (q_pd ny fy) i)) < 2 ^ 64 := by omega
    refine lv_iload hx hb dX3_gather_18 (lv_at hl 0 rfl) ?_
    refine lv_iload_n hx hb dX3_gather_20 rfl (lv_at hl 2 rfl) ?_
    refine bd_ige (h1 := (by omega)) (h2 := (by omega)) (tgt := 96) hx hb dX3_gather_21 (by decide) (fun hc21 => ?_) (fun hc21 => ?_)
    · have hi : i = mx := by omega
      subst hi
      have hg := q_gather hmx24.1 hmx24.2.1 hR
      refine lv_iload_n hx hb dX3_gather_96 rfl (lv_at hl 2 rfl) ?_
      refine lv_bipush (v := nI 24) hx hb dX3_gather_97 (by decide) ?_
      refine bd_ige (h1 := (by omega)) (h2 := (by omega)) (tgt := 113) hx hb dX3_gather_99 (by decide) (fun hc99 => ?_) (fun hc99 => ?_)
      · have h9 : i = 24 := by omega
        have hc0 : (q_cr (q_pd nx fx) (q_pd ny fy) i) = 0 := by
          rcases Nat.eq_zero_or_pos (q_cr (q_pd nx fx) (q_pd ny fy) i) with q | q
          · exact q
          · have h8 := Nat.mul_le_mul_right (4294967296 ^ i) q
            rw [h9] at hg h8
            omega
        rw [hc0, Nat.zero_mul, Nat.add_zero] at hg
        refine lv_iload_n hx hb dX3_gather_113 rfl (lv_at hl 2 rfl) ?_
        exact bd_iret C hr hlk hw dX3_gather_114 ⟨i, fh, rfl, by omega, hrh, hg, rfl, hz1, ho⟩
      · refine lv_aload_n hx hb dX3_gather_102 rfl (lv_at hl 3 rfl) ?_
        refine bd_grw C i3 hw hh hz1 dX3_gather_103 lk9 ?_
        refine lv_iload_n hx hb dX3_gather_106 rfl (lv_at hl 2 rfl) ?_
        refine lv_lload hx hb dX3_gather_107 (lv_at hl 1 rfl) ?_
        refine bd_ast C hw hh hz1 dX3_gather_109 (by omega) (fun z H locs hz9 hfr hw => ?_)
        have hz1 := hz9
        have ho := bd_tr hfr ho
        refine lv_iinc (v := (nI (i + 1))) (lv' := [(3, .int (nI (i + 1))), (6, .int (nI i)), (4, .long (lN (q_cr (q_pd nx fx) (q_pd ny fy) i))), (0, .ref h), (1, .ref x), (2, .ref y)]) hx hb dX3_gather_110 hl (k := 2) rfl (nI_1 _) (by decide) rfl (fun ls hl => ?_)
        refine lv_iload_n hx hb dX3_gather_113 rfl (lv_at hl 0 rfl) ?_
        refine bd_iret C hr hlk hw dX3_gather_114 ⟨i + 1, _, rfl, by omega, q_r_up hrh (by omega), ?_, rfl, hz1, ho⟩
        show q_s _ i + va_up fh i _ i * _ = _
        rw [va_up_self, q_cg (f := fh) (fun j hj => va_up_ne fh _ (by omega))]
        exact hg
    · suffices hj44 : W p l e (headSpec wsX3_gather ({ frames := 1, cells := 0, slots := 0, locals := 30 })).room s m [.ref h, .ref x, .ref y].toArray below meth c H locs 0 0 (MQ below (va_Qi (fun r u => ∃ (n1 : Nat) (f1 : Nat → Nat), r = nI n1 ∧ n1 ≤ 24 ∧ q_r f1 ∧ q_s f1 n1 = q_s fx nx + q_s fy ny ∧ u.1 = E ∧ u.2 h = (n, g, f1) ∧ ∀ b, b ≠ h → u.2 b = z0 b) (bd_B K) (bd_A K sz)) [.ref h, .ref x, .ref y].toArray s 0 0 (bd_A K sz)) (F0 m 44 ls [.long (lN ((q_pd nx fx) i))]) by
        refine lv_iload hx hb dX3_gather_24 (lv_at hl 0 rfl) ?_
        refine lv_aload_n hx hb dX3_gather_26 rfl (lv_at hl 4 rfl) ?_
        refine bd_gsz C i3 hw hmx hzx1 dX3_gather_27 lk17 ?_
        refine bd_ige (h1 := (by omega)) (h2 := (by omega)) (tgt := 43) hx hb dX3_gather_30 (by decide) (fun hc30 => ?_) (fun hc30 => ?_)
        · refine lv_lconst (v := lN 0) hx hb dX3_gather_43 rfl ?_
          rw [show (q_pd nx fx) i = 0 from q_pd_out hc30] at hj44
          exact hj44
        · refine lv_aload_n hx hb dX3_gather_33 rfl (lv_at hl 4 rfl) ?_
          refine bd_grw C i3 hw hmx hzx1 dX3_gather_34 lk9 ?_
          refine lv_iload hx hb dX3_gather_37 (lv_at hl 0 rfl) ?_
          refine bd_ald C hw hmx hzx1 dX3_gather_39 (by omega) ?_
          refine lv_goto (tgt := 44) hx hb dX3_gather_40 (by decide) ?_
          rw [show (q_pd nx fx) i = fx1 i from (q_pd_in hc30).trans (hex i (Nat.le_refl i)).symm] at hj44
          exact hj44
      suffices hj64 : W p l e (headSpec wsX3_gather ({ frames := 1, cells := 0, slots := 0, locals := 30 })).room s m [.ref h, .ref x, .ref y].toArray below meth c H locs 0 0 (MQ below (va_Qi (fun r u => ∃ (n1 : Nat) (f1 : Nat → Nat), r = nI n1 ∧ n1 ≤ 24 ∧ q_r f1 ∧ q_s f1 n1 = q_s fx nx + q_s fy ny ∧ u.1 = E ∧ u.2 h = (n, g, f1) ∧ ∀ b, b ≠ h → u.2 b = z0 b) (bd_B K) (bd_A K sz)) [.ref h, .ref x, .ref y].toArray s 0 0 (bd_A K sz)) (F0 m 64 ls [.long (lN ((q_pd ny fy) i)), .long (lN ((q_pd nx fx) i))]) by
        refine lv_iload hx hb dX3_gather_44 (lv_at hl 0 rfl) ?_
        refine lv_aload_n hx hb dX3_gather_46 rfl (lv_at hl 5 rfl) ?_
        refine bd_gsz C i3 hw hmy hzy1 dX3_gather_47 lk17 ?_
        refine bd_ige (h1 := (by omega)) (h2 := (by omega)) (tgt := 63) hx hb dX3_gather_50 (by decide) (fun hc50 => ?_) (fun hc50 => ?_)
        · refine lv_lconst (v := lN 0) hx hb dX3_gather_63 rfl ?_
          rw [show (q_pd ny fy) i = 0 from q_pd_out hc50] at hj64
          exact hj64
        · refine lv_aload_n hx hb dX3_gather_53 rfl (lv_at hl 5 rfl) ?_
          refine bd_grw C i3 hw hmy hzy1 dX3_gather_54 lk9 ?_
          refine lv_iload hx hb dX3_gather_57 (lv_at hl 0 rfl) ?_
          refine bd_ald C hw hmy hzy1 dX3_gather_59 (by omega) ?_
          refine lv_goto (tgt := 64) hx hb dX3_gather_60 (by decide) ?_
          rw [show (q_pd ny fy) i = fy1 i from (q_pd_in hc50).trans (hey i (Nat.le_refl i)).symm] at hj64
          exact hj64
      refine bd_ladd (v := (lN ((q_pd nx fx) i + (q_pd ny fy) i))) hx hb dX3_gather_64 (lN_add _ _) ?_
      refine lv_lload hx hb dX3_gather_65 (lv_at hl 1 rfl) ?_
      refine bd_ladd (v := (lN ((q_pd nx fx) i + (q_pd ny fy) i + (q_cr (q_pd nx fx) (q_pd ny fy) i)))) hx hb dX3_gather_67 (lN_add _ _) ?_
      refine lv_lstore (lv' := [(7, .long (lN ((q_pd nx fx) i + (q_pd ny fy) i + (q_cr (q_pd nx fx) (q_pd ny fy) i)))), (6, .int (nI i)), (4, .long (lN (q_cr (q_pd nx fx) (q_pd ny fy) i))), (3, .int (nI mx)), (0, .ref h), (1, .ref x), (2, .ref y)]) hx hb dX3_gather_68 hl (by decide) rfl (fun ls hl => ?_)
      refine lv_aload_n hx hb dX3_gather_70 rfl (lv_at hl 4 rfl) ?_
      refine bd_grw C i3 hw hh hz1 dX3_gather_71 lk9 ?_
      refine lv_iload hx hb dX3_gather_74 (lv_at hl 1 rfl) ?_
      refine lv_lload hx hb dX3_gather_76 (lv_at hl 0 rfl) ?_
      refine lv_ldc2 (v := lN 4294967295) hx hb hown (hts _ lk30) dX3_gather_78 ?_
      refine bd_land (v := (lN (q_sm (q_pd nx fx) (q_pd ny fy) i))) hx hb dX3_gather_81 (bd_m32 hu) ?_
      refine bd_ast C hw hh hz1 dX3_gather_82 (by omega) (fun z H locs hz9 hfr hw => ?_)
      obtain ⟨fx2, hzx2, hx2⟩ := bd_al hz1 hz9 hfr hzx1
      obtain ⟨fy2, hzy2, hy2⟩ := bd_al hz1 hz9 hfr hzy1
      have hz1 := hz9
      have ho := bd_tr hfr ho
      refine lv_lload hx hb dX3_gather_83 (lv_at hl 0 rfl) ?_
      refine lv_bipush (v := nI 32) hx hb dX3_gather_85 (by decide) ?_
      refine bd_lushr (v := (lN (q_cr (q_pd nx fx) (q_pd ny fy) (i + 1)))) hx hb dX3_gather_87 (bd_s32 hu) ?_
      refine lv_lstore (lv' := [(4, .long (lN (q_cr (q_pd nx fx) (q_pd ny fy) (i + 1)))), (7, .long (lN ((q_pd nx fx) i + (q_pd ny fy) i + (q_cr (q_pd nx fx) (q_pd ny fy) i)))), (6, .int (nI i)), (3, .int (nI mx)), (0, .ref h), (1, .ref x), (2, .ref y)]) hx hb dX3_gather_88 hl (by decide) rfl (fun ls hl => ?_)
      refine lv_iinc (v := (nI (i + 1))) (lv' := [(6, .int (nI (i + 1))), (4, .long (lN (q_cr (q_pd nx fx) (q_pd ny fy) (i + 1)))), (7, .long (lN ((q_pd nx fx) i + (q_pd ny fy) i + (q_cr (q_pd nx fx) (q_pd ny fy) i)))), (3, .int (nI mx)), (0, .ref h), (1, .ref x), (2, .ref y)]) hx hb dX3_gather_90 hl (k := 2) rfl (nI_1 _) (by decide) rfl (fun ls hl => ?_)
      refine lv_goto (tgt := 18) hx hb dX3_gather_93 (by decide) ?_
      exact ih (d - 1) (by omega) (i + 1) z ls H locs _ _ _ (by omega) hz1 hzx2 hzy2 (q_r_up hrh (Nat.mod_lt _ (by decide))) (fun j hj => (hx2 j (by omega)).trans (hex j (by omega))) (fun j hj => (hy2 j (by omega)).trans (hey j (by omega))) (fun j hj => if q : j = i then by rw [q, va_up_self] else by rw [va_up_ne _ _ q]; exact hR j (by omega)) ho (lv_sub hl [0, 1, 3, 4, 5, 6] rfl) hw
