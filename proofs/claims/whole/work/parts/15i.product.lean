/-! Whole.product (laid by wip/gen/m_whole9.py) -/
set_option maxHeartbeats 4000000 in
set_option maxRecDepth 100000 in
/-- Whole.product(x, y), neither the number itself -/
theorem c3_product (l : Launch) (K : Cxt) (E : Nat → va_E) (z0 : Nat → Wh) (sz h : Nat) (x y : Nat) (hh : h ∈ bd_N K) (hmx : x ∈ bd_N K) (hmy : y ∈ bd_N K) (hxh : x ≠ h) (hyh : y ≠ h) {n nx ny : Nat} {g gx gy : Int32} {f fx fy : Nat → Nat} (hz : z0 h = (n, g, f)) (hzx : z0 x = (nx, gx, fx)) (hzy : z0 y = (ny, gy, fy)) (hf : q_r f) (okx : bd_ok (nx, gx, fx)) (oky : bd_ok (ny, gy, fy)) (hs : nx + ny ≤ 24) : Met l yX3_product wsX3_product ({ frames := 1, cells := 0, slots := 0, locals := 30 }) (va_Pc [.ref h, .ref x, .ref y] (bd_P K E z0 sz)) (va_Qv (fun u => u.1 = E ∧ bd_n (u.2 h) (bd_v (nx, gx, fx) * bd_v (ny, gy, fy)) ∧ ∀ b, b ≠ h → u.2 b = z0 b) (bd_B K) (bd_A K sz)) 0 0 (bd_A K sz) := by
  refine bd_ofW (cc := cX3_product) (maxL := 12) (ret := none) (by decide) rfl (Nat.le_of_ble_eq_true rfl) ?_
  intro p e s m below meth c ls C hr hlk hsz hw hl
  have hx := C.1
  have hb := C.2.1
  have hown := C.2.2.2.1
  have hts := C.2.2.2.2.1
  have i3 : ∀ w ∈ wsX30, w ∈ wsX3_product := by decide +kernel
  have lk17 : Cond.fieldLink RX3 17 "BallDesk$Whole" "size" "I" ∈ wsX3_product := by decide +kernel
  have lk13 : Cond.fieldLink RX3 13 "BallDesk$Whole" "sign" "I" ∈ wsX3_product := by decide +kernel
  have lk9 : Cond.fieldLink RX3 9 "BallDesk$Whole" "row" "[J" ∈ wsX3_product := by decide +kernel
  have lk30 : Cond.constantLong RX3 30 (4294967295) ∈ wsX3_product := by decide +kernel
  have ho : ∀ b, b ≠ h → z0 b = z0 b := fun _ _ => rfl
  have hl : lv_has ls 12 [(0, .ref h), (1, .ref x), (2, .ref y)] := hl
  have hxm := bd_ok_m okx
  have hym := bd_ok_m oky
  obtain ⟨h24x, hfx, htx⟩ := bd_ok_sz okx
  obtain ⟨h24y, hfy, hty⟩ := bd_ok_sz oky
  refine lv_aload_n hx hb dX3_product_0 rfl (lv_at hl 1 rfl) ?_
  refine bd_gsz C i3 hw hmx hzx dX3_product_1 lk17 ?_
  refine lv_aload_n hx hb dX3_product_4 rfl (lv_at hl 2 rfl) ?_
  refine bd_gsz C i3 hw hmy hzy dX3_product_5 lk17 ?_
  refine bd_iadd (v := (nI (nx + ny))) hx hb dX3_product_8 (nI_add _ _) ?_
  refine lv_istore_n (lv' := [(3, .int (nI (nx + ny))), (0, .ref h), (1, .ref x), (2, .ref y)]) hx hb dX3_product_9 rfl hl (by decide) rfl (fun ls hl => ?_)
  refine lv_iload_n hx hb dX3_product_10 rfl (lv_at hl 0 rfl) ?_
  refine lv_bipush (v := nI 24) hx hb dX3_product_11 (by decide) ?_
  refine bd_ile (h1 := (by omega)) (h2 := (by omega)) (tgt := 21) hx hb dX3_product_13 (by decide) (fun hc13 => ?_) (fun hc13 => ?_)
  · refine lv_iconst (v := nI 0) hx hb dX3_product_21 (by decide) ?_
    refine lv_istore (lv' := [(4, .int (nI 0)), (3, .int (nI (nx + ny))), (0, .ref h), (1, .ref x), (2, .ref y)]) hx hb dX3_product_22 hl (by decide) rfl (fun ls hl => ?_)
    suffices hloop : ∀ (d i : Nat) (z : Nat → Wh) (ls : Array Slot) (H : Heap) (locs : List Loc) (fh : Nat → Nat), i + d = nx + ny → z h = (n, g, fh) → q_r fh → (∀ j, j < i → fh j = 0) → (∀ b, b ≠ h → z b = z0 b) → lv_has ls 12 [(4, .int (nI i)), (3, .int (nI (nx + ny))), (0, .ref h), (1, .ref x), (2, .ref y)] → bd_W K E z (bd_A K sz) s.heap H locs → W p l e (headSpec wsX3_product ({ frames := 1, cells := 0, slots := 0, locals := 30 })).room s m [.ref h, .ref x, .ref y].toArray below meth c H locs 0 0 (MQ below (va_Qv (fun u => u.1 = E ∧ bd_n (u.2 h) (bd_v (nx, gx, fx) * bd_v (ny, gy, fy)) ∧ ∀ b, b ≠ h → u.2 b = z0 b) (bd_B K) (bd_A K sz)) [.ref h, .ref x, .ref y].toArray s 0 0 (bd_A K sz)) (F0 m 24 ls []) from hloop (nx + ny) 0 z0 ls _ _ f (by omega) hz hf (fun j hj => absurd hj (by omega)) ho (lv_sub hl [0, 1, 2, 3, 4] rfl) hw
    clear hw hl ls ho hz
    intro d
    induction d using Nat.strongRecOn with
    | ind d ih =>
      intro i z ls H locs fh hid hz hfh h0 ho hl hw
      have hzx1 : z x = (nx, gx, fx) := (ho x hxh).trans hzx
      have hzy1 : z y = (ny, gy, fy) := (ho y hyh).trans hzy
      refine lv_iload hx hb dX3_product_24 (lv_at hl 0 rfl) ?_
      refine lv_iload_n hx hb dX3_product_26 rfl (lv_at hl 1 rfl) ?_
      refine bd_ige (h1 := (by omega)) (h2 := (by omega)) (tgt := 44) hx hb dX3_product_27 (by decide) (fun hc27 => ?_) (fun hc27 => ?_)
      · refine lv_iconst (v := nI 0) hx hb dX3_product_44 (by decide) ?_
        refine lv_istore (lv' := [(4, .int (nI 0)), (3, .int (nI (nx + ny))), (0, .ref h), (1, .ref x), (2, .ref y)]) hx hb dX3_product_45 hl (by decide) rfl (fun ls hl => ?_)
        clear ih
        suffices hloop : ∀ (dO i : Nat) (z : Nat → Wh) (ls : Array Slot) (H : Heap) (locs : List Loc) (fh : Nat → Nat), i + dO = nx → z h = (n, g, fh) → q_r fh → q_s fh (nx + ny) = q_s fx i * q_s fy ny → (∀ k, i + ny ≤ k → k < nx + ny → fh k = 0) → (∀ b, b ≠ h → z b = z0 b) → lv_has ls 12 [(4, .int (nI i)), (3, .int (nI (nx + ny))), (0, .ref h), (1, .ref x), (2, .ref y)] → bd_W K E z (bd_A K sz) s.heap H locs → W p l e (headSpec wsX3_product ({ frames := 1, cells := 0, slots := 0, locals := 30 })).room s m [.ref h, .ref x, .ref y].toArray below meth c H locs 0 0 (MQ below (va_Qv (fun u => u.1 = E ∧ bd_n (u.2 h) (bd_v (nx, gx, fx) * bd_v (ny, gy, fy)) ∧ ∀ b, b ≠ h → u.2 b = z0 b) (bd_B K) (bd_A K sz)) [.ref h, .ref x, .ref y].toArray s 0 0 (bd_A K sz)) (F0 m 47 ls []) from hloop nx 0 z ls _ _ fh (by omega) hz hfh (by rw [q_zz (fun j hj => h0 j (by omega))]; show 0 = 0 * _; rw [Nat.zero_mul]) (fun k _ h2 => h0 k (by omega)) ho (lv_sub hl [0, 1, 2, 3, 4] rfl) hw
        clear hw hl ls ho hz hzx1 hzy1 h0 hfh fh z H locs
        intro dO
        induction dO using Nat.strongRecOn with
        | ind dO ihO =>
          intro i z ls H locs fh hid hz hfh hq hz0 ho hl hw
          have hzx1 : z x = (nx, gx, fx) := (ho x hxh).trans hzx
          have hzy1 : z y = (ny, gy, fy) := (ho y hyh).trans hzy
          refine lv_iload hx hb dX3_product_47 (lv_at hl 0 rfl) ?_
          refine lv_aload_n hx hb dX3_product_49 rfl (lv_at hl 3 rfl) ?_
          refine bd_gsz C i3 hw hmx hzx1 dX3_product_50 lk17 ?_
          refine bd_ige (h1 := (by omega)) (h2 := (by omega)) (tgt := 155) hx hb dX3_product_53 (by decide) (fun hc53 => ?_) (fun hc53 => ?_)
          · refine lv_aload_n hx hb dX3_product_155 rfl (lv_at hl 2 rfl) ?_
            refine lv_aload_n hx hb dX3_product_156 rfl (lv_at hl 3 rfl) ?_
            refine bd_gsg C i3 hw hmx hzx1 dX3_product_157 lk13 ?_
            refine lv_aload_n hx hb dX3_product_160 rfl (lv_at hl 4 rfl) ?_
            refine bd_gsg C i3 hw hmy hzy1 dX3_product_161 lk13 ?_
            refine bd_imul (v := (gx * gy)) hx hb dX3_product_164 (rfl) ?_
            refine bd_psg C i3 hw hh hz dX3_product_165 lk13 (fun z H locs hz hfr hw => ?_)
            have hz : z h = (n, gx * gy, fh) := hz
            have ho := bd_tr hfr ho
            refine lv_aload_n hx hb dX3_product_168 rfl (lv_at hl 2 rfl) ?_
            refine lv_iload_n hx hb dX3_product_169 rfl (lv_at hl 1 rfl) ?_
            refine bd_cv (As := [.int (nI (nx + ny))]) (rest := []) C (c3_trim _ _ _ _ _ _ (nx + ny) hh hz hs hfh) (cwV 1 hts gX3_product_X3_trim rfl rfl rfl (by decide +kernel) ⟨Nat.le_of_ble_eq_true rfl, Nat.le_of_ble_eq_true rfl⟩) hsz hw (bd_recv C hw hh) dX3_product_170 rfl hl.1 rfl (by decide) ⟨Nat.le_refl _, Nat.le_refl _⟩ (fun E1 z H locs hp hw => ?_)
            obtain ⟨hE, hz2, hfr⟩ := hp
            rw [show E1 = E from hE] at hw
            have ho := bd_tr (z2 := z) hfr ho
            have hi : i = nx := by omega
            subst hi
            have hp := bd_prs hxm hym hq
            exact bd_vret C hr hlk hw dX3_product_173 ⟨rfl, by rw [show (E, z).2 h = _ from hz2]; exact bd_fin hfh hs hp.1 hp.2, ho⟩
          · refine lv_aload_n hx hb dX3_product_56 rfl (lv_at hl 3 rfl) ?_
            refine bd_grw C i3 hw hmx hzx1 dX3_product_57 lk9 ?_
            refine lv_iload hx hb dX3_product_60 (lv_at hl 0 rfl) ?_
            refine bd_ald C hw hmx hzx1 dX3_product_62 (by omega) ?_
            refine lv_lstore (lv' := [(5, .long (lN (fx i))), (4, .int (nI i)), (3, .int (nI (nx + ny))), (0, .ref h), (1, .ref x), (2, .ref y)]) hx hb dX3_product_63 hl (by decide) rfl (fun ls hl => ?_)
            refine lv_lconst (v := lN 0) hx hb dX3_product_65 rfl ?_
            refine lv_lstore (lv' := [(7, .long (lN 0)), (5, .long (lN (fx i))), (4, .int (nI i)), (3, .int (nI (nx + ny))), (0, .ref h), (1, .ref x), (2, .ref y)]) hx hb dX3_product_66 hl (by decide) rfl (fun ls hl => ?_)
            refine lv_iconst (v := nI 0) hx hb dX3_product_68 (by decide) ?_
            refine lv_istore (lv' := [(9, .int (nI 0)), (7, .long (lN 0)), (5, .long (lN (fx i))), (4, .int (nI i)), (3, .int (nI (nx + ny))), (0, .ref h), (1, .ref x), (2, .ref y)]) hx hb dX3_product_69 hl (by decide) rfl (fun ls hl => ?_)
            suffices hloop : ∀ (d j cy : Nat) (z : Nat → Wh) (ls : Array Slot) (H : Heap) (locs : List Loc) (fh : Nat → Nat), j + d = ny → z h = (n, g, fh) → q_r fh → cy < 4294967296 → q_s fh (nx + ny) + cy * 4294967296 ^ (i + j) = q_s fx i * q_s fy ny + fx i * q_s fy j * 4294967296 ^ i → (∀ k, i + ny ≤ k → k < nx + ny → fh k = 0) → (∀ b, b ≠ h → z b = z0 b) → lv_has ls 12 [(9, .int (nI j)), (7, .long (lN cy)), (5, .long (lN (fx i))), (4, .int (nI i)), (3, .int (nI (nx + ny))), (0, .ref h), (1, .ref x), (2, .ref y)] → bd_W K E z (bd_A K sz) s.heap H locs → W p l e (headSpec wsX3_product ({ frames := 1, cells := 0, slots := 0, locals := 30 })).room s m [.ref h, .ref x, .ref y].toArray below meth c H locs 0 0 (MQ below (va_Qv (fun u => u.1 = E ∧ bd_n (u.2 h) (bd_v (nx, gx, fx) * bd_v (ny, gy, fy)) ∧ ∀ b, b ≠ h → u.2 b = z0 b) (bd_B K) (bd_A K sz)) [.ref h, .ref x, .ref y].toArray s 0 0 (bd_A K sz)) (F0 m 71 ls []) from hloop ny 0 0 z ls _ _ fh (by omega) hz hfh (by decide) (by rw [hq, Nat.zero_mul]; show _ = _ + fx i * 0 * _; rw [Nat.mul_zero, Nat.zero_mul]) hz0 ho (lv_sub hl [0, 1, 2, 3, 4, 5, 6, 7] rfl) hw
            clear hw hl ls ho hz hzx1 hzy1 hz0 hq hfh fh z H locs
            intro d
            induction d using Nat.strongRecOn with
            | ind d ih =>
              intro j cy z ls H locs fh hjd hz hfh hc hv hz0 ho hl hw
              have hzx1 : z x = (nx, gx, fx) := (ho x hxh).trans hzx
              have hzy1 : z y = (ny, gy, fy) := (ho y hyh).trans hzy
              refine lv_iload hx hb dX3_product_71 (lv_at hl 0 rfl) ?_
              refine lv_aload_n hx hb dX3_product_73 rfl (lv_at hl 7 rfl) ?_
              refine bd_gsz C i3 hw hmy hzy1 dX3_product_74 lk17 ?_
              refine bd_ige (h1 := (by omega)) (h2 := (by omega)) (tgt := 135) hx hb dX3_product_77 (by decide) (fun hc77 => ?_) (fun hc77 => ?_)
              · have hj : j = ny := by omega
                subst hj
                refine lv_aload_n hx hb dX3_product_135 rfl (lv_at hl 5 rfl) ?_
                refine bd_grw C i3 hw hh hz dX3_product_136 lk9 ?_
                refine lv_iload hx hb dX3_product_139 (lv_at hl 3 rfl) ?_
                refine lv_aload_n hx hb dX3_product_141 rfl (lv_at hl 7 rfl) ?_
                refine bd_gsz C i3 hw hmy hzy1 dX3_product_142 lk17 ?_
                refine bd_iadd (v := (nI (i + j))) hx hb dX3_product_145 (nI_add _ _) ?_
                refine lv_lload hx hb dX3_product_146 (lv_at hl 1 rfl) ?_
                refine bd_ast C hw hh hz dX3_product_148 (by omega) (fun z H locs hz hfr hw => ?_)
                have ho := bd_tr hfr ho
                refine lv_iinc (v := (nI (i + 1))) (lv' := [(4, .int (nI (i + 1))), (9, .int (nI j)), (7, .long (lN cy)), (5, .long (lN (fx i))), (3, .int (nI (nx + j))), (0, .ref h), (1, .ref x), (2, .ref y)]) hx hb dX3_product_149 hl (k := 3) rfl (nI_1 _) (by decide) rfl (fun ls hl => ?_)
                refine lv_goto (tgt := 47) hx hb dX3_product_152 (by decide) ?_
                exact ihO (dO - 1) (by omega) (i + 1) z ls H locs _ (by omega) hz (q_r_up hfh hc) (q_prod2 (by omega) (hz0 (i + j) (Nat.le_refl _) (by omega)) hv) (fun k h1 h2 => by rw [va_up_ne _ _ (by omega)]; exact hz0 k (by omega) h2) ho (lv_sub hl [0, 4, 5, 6, 7] rfl) hw
              · have hu := q_pr64 (hfx i (by omega)) (hfy j (by omega)) (hfh (i + j) (by omega)) hc
                refine lv_lload hx hb dX3_product_80 (lv_at hl 2 rfl) ?_
                refine lv_aload_n hx hb dX3_product_82 rfl (lv_at hl 7 rfl) ?_
                refine bd_grw C i3 hw hmy hzy1 dX3_product_83 lk9 ?_
                refine lv_iload hx hb dX3_product_86 (lv_at hl 0 rfl) ?_
                refine bd_ald C hw hmy hzy1 dX3_product_88 (by omega) ?_
                refine bd_lmul (v := (lN (fx i * fy j))) hx hb dX3_product_89 (lN_mul _ _) ?_
                refine lv_aload_n hx hb dX3_product_90 rfl (lv_at hl 5 rfl) ?_
                refine bd_grw C i3 hw hh hz dX3_product_91 lk9 ?_
                refine lv_iload hx hb dX3_product_94 (lv_at hl 3 rfl) ?_
                refine lv_iload hx hb dX3_product_96 (lv_at hl 0 rfl) ?_
                refine bd_iadd (v := (nI (i + j))) hx hb dX3_product_98 (nI_add _ _) ?_
                refine bd_ald C hw hh hz dX3_product_99 (by omega) ?_
                refine bd_ladd (v := (lN (fx i * fy j + fh (i + j)))) hx hb dX3_product_100 (lN_add _ _) ?_
                refine lv_lload hx hb dX3_product_101 (lv_at hl 1 rfl) ?_
                refine bd_ladd (v := (lN (fx i * fy j + fh (i + j) + cy))) hx hb dX3_product_103 (lN_add _ _) ?_
                refine lv_lstore (lv' := [(10, .long (lN (fx i * fy j + fh (i + j) + cy))), (9, .int (nI j)), (7, .long (lN cy)), (5, .long (lN (fx i))), (4, .int (nI i)), (3, .int (nI (nx + ny))), (0, .ref h), (1, .ref x), (2, .ref y)]) hx hb dX3_product_104 hl (by decide) rfl (fun ls hl => ?_)
                refine lv_aload_n hx hb dX3_product_106 rfl (lv_at hl 6 rfl) ?_
                refine bd_grw C i3 hw hh hz dX3_product_107 lk9 ?_
                refine lv_iload hx hb dX3_product_110 (lv_at hl 4 rfl) ?_
                refine lv_iload hx hb dX3_product_112 (lv_at hl 1 rfl) ?_
                refine bd_iadd (v := (nI (i + j))) hx hb dX3_product_114 (nI_add _ _) ?_
                refine lv_lload hx hb dX3_product_115 (lv_at hl 0 rfl) ?_
                refine lv_ldc2 (v := lN 4294967295) hx hb hown (hts _ lk30) dX3_product_117 ?_
                refine bd_land (v := (lN ((fx i * fy j + fh (i + j) + cy) % 4294967296))) hx hb dX3_product_120 (bd_m32 hu) ?_
                refine bd_ast C hw hh hz dX3_product_121 (by omega) (fun z H locs hz hfr hw => ?_)
                have ho := bd_tr hfr ho
                have hzx1 : z x = (nx, gx, fx) := (ho x hxh).trans hzx
                have hzy1 : z y = (ny, gy, fy) := (ho y hyh).trans hzy
                refine lv_lload hx hb dX3_product_122 (lv_at hl 0 rfl) ?_
                refine lv_bipush (v := nI 32) hx hb dX3_product_124 (by decide) ?_
                refine bd_lushr (v := (lN ((fx i * fy j + fh (i + j) + cy) / 4294967296))) hx hb dX3_product_126 (bd_s32 hu) ?_
                refine lv_lstore (lv' := [(7, .long (lN ((fx i * fy j + fh (i + j) + cy) / 4294967296))), (10, .long (lN (fx i * fy j + fh (i + j) + cy))), (9, .int (nI j)), (5, .long (lN (fx i))), (4, .int (nI i)), (3, .int (nI (nx + ny))), (0, .ref h), (1, .ref x), (2, .ref y)]) hx hb dX3_product_127 hl (by decide) rfl (fun ls hl => ?_)
                refine lv_iinc (v := (nI (j + 1))) (lv' := [(9, .int (nI (j + 1))), (7, .long (lN ((fx i * fy j + fh (i + j) + cy) / 4294967296))), (10, .long (lN (fx i * fy j + fh (i + j) + cy))), (5, .long (lN (fx i))), (4, .int (nI i)), (3, .int (nI (nx + ny))), (0, .ref h), (1, .ref x), (2, .ref y)]) hx hb dX3_product_129 hl (k := 2) rfl (nI_1 _) (by decide) rfl (fun ls hl => ?_)
                refine lv_goto (tgt := 71) hx hb dX3_product_132 (by decide) ?_
                exact ih (d - 1) (by omega) (j + 1) ((fx i * fy j + fh (i + j) + cy) / 4294967296) z ls H locs _ (by omega) hz (q_r_up hfh (Nat.mod_lt _ (by decide))) (q_prc (hfx i (by omega)) (hfy j (by omega)) (hfh (i + j) (by omega)) hc) (q_prod1 (by omega) hv) (fun k h1 h2 => by rw [va_up_ne _ _ (by omega)]; exact hz0 k h1 h2) ho (lv_sub hl [0, 1, 3, 4, 5, 6, 7, 8] rfl) hw
      · refine lv_aload_n hx hb dX3_product_30 rfl (lv_at hl 2 rfl) ?_
        refine bd_grw C i3 hw hh hz dX3_product_31 lk9 ?_
        refine lv_iload hx hb dX3_product_34 (lv_at hl 0 rfl) ?_
        refine lv_lconst (v := lN 0) hx hb dX3_product_36 rfl ?_
        refine bd_ast C hw hh hz dX3_product_37 (by omega) (fun z H locs hz hfr hw => ?_)
        have ho := bd_tr hfr ho
        have hzx1 : z x = (nx, gx, fx) := (ho x hxh).trans hzx
        have hzy1 : z y = (ny, gy, fy) := (ho y hyh).trans hzy
        refine lv_iinc (v := (nI (i + 1))) (lv' := [(4, .int (nI (i + 1))), (3, .int (nI (nx + ny))), (0, .ref h), (1, .ref x), (2, .ref y)]) hx hb dX3_product_38 hl (k := 0) rfl (nI_1 _) (by decide) rfl (fun ls hl => ?_)
        refine lv_goto (tgt := 24) hx hb dX3_product_41 (by decide) ?_
        exact ih (d - 1) (by omega) (i + 1) z ls H locs _ (by omega) hz (q_r_up hfh (by decide)) (fun j hj => if q : j = i then by rw [q, va_up_self] else by rw [va_up_ne _ _ q]; exact h0 j (by omega)) ho (lv_sub hl [0, 1, 2, 3, 4] rfl) hw
  · exact absurd hc13 (by omega)
