/-! Whole: order, dropSign, isSpent, become(Whole) (laid by wip/gen/m_whole7.py) -/
set_option maxHeartbeats 4000000 in
set_option maxRecDepth 100000 in
/-- Whole.order -/
theorem c3_order (l : Launch) (K : Cxt) (E : Nat → va_E) (z0 : Nat → Wh) (sz h : Nat) (x : Nat) (hh : h ∈ bd_N K) (hmx : x ∈ bd_N K) {n nx : Nat} {g gx : Int32} {f fx : Nat → Nat} (hz : z0 h = (n, g, f)) (hzx : z0 x = (nx, gx, fx)) (okh : bd_ok (n, g, f)) (okx : bd_ok (nx, gx, fx)) : Met l yX3_order wsX3_order ({ frames := 2, cells := 0, slots := 0, locals := 60 }) (va_Pc [.ref h, .ref x] (bd_P K E z0 sz)) (va_Qi (fun r u => r = q_i3 (bd_v (n, g, f)) (bd_v (nx, gx, fx)) ∧ u = (E, z0)) (bd_B K) (bd_A K sz)) 0 0 (bd_A K sz) := by
  refine bd_ofW (cc := cX3_order) (maxL := 2) (ret := (some .int)) (by decide) rfl (Nat.le_of_ble_eq_true rfl) ?_
  intro p e s m below meth c ls C hr hlk hsz hw hl
  have hx := C.1
  have hb := C.2.1
  have hown := C.2.2.2.1
  have hts := C.2.2.2.2.1
  have i3 : ∀ w ∈ wsX30, w ∈ wsX3_order := by decide +kernel
  have lk13 : Cond.fieldLink RX3 13 "BallDesk$Whole" "sign" "I" ∈ wsX3_order := by decide +kernel
  have ho : ∀ b, b ≠ h → z0 b = z0 b := fun _ _ => rfl
  have hl : lv_has ls 2 [(0, .ref h), (1, .ref x)] := hl
  have hm := bd_ok_m okh
  have hxm := bd_ok_m okx
  obtain ⟨h24, hf, ht⟩ := bd_ok_sz okh
  obtain ⟨h24x, hfx, htx⟩ := bd_ok_sz okx
  refine lv_aload_n hx hb dX3_order_0 rfl (lv_at hl 0 rfl) ?_
  refine bd_gsg C i3 hw hh hz dX3_order_1 lk13 ?_
  refine lv_aload_n hx hb dX3_order_4 rfl (lv_at hl 1 rfl) ?_
  refine bd_gsg C i3 hw hmx hzx dX3_order_5 lk13 ?_
  refine lv_icmp_eq (tgt := 23) hx hb dX3_order_8 (by decide) (fun hc8 => ?_) (fun hc8 => ?_)
  · refine lv_aload_n hx hb dX3_order_23 rfl (lv_at hl 0 rfl) ?_
    refine bd_gsg C i3 hw hh hz dX3_order_24 lk13 ?_
    refine lv_if_ge (tgt := 38) hx hb dX3_order_27 (by decide) (fun hc27 => ?_) (fun hc27 => ?_)
    · refine lv_aload_n hx hb dX3_order_38 rfl (lv_at hl 0 rfl) ?_
      refine lv_aload_n hx hb dX3_order_39 rfl (lv_at hl 1 rfl) ?_
      refine bd_cip (As := [.ref x]) (rest := []) C (c3_ows _ _ _ _ _ h x hh hmx hz hzx h24 h24x hf hfx ht htx) (cwV 1 hts gX3_order_X3_orderWithoutSign rfl rfl rfl (by decide +kernel) ⟨Nat.le_of_ble_eq_true rfl, Nat.le_of_ble_eq_true rfl⟩) hsz hw (bd_recv C hw hh) dX3_order_40 rfl hl.1 rfl (by decide) ⟨Nat.le_refl _, Nat.le_refl _⟩ (fun H locs hw => ?_)
      exact bd_iret C hr hlk hw dX3_order_43 ⟨by show _ = q_i3 (g.toInt * _) (gx.toInt * _); rw [← hc8]; rw [← hc8] at hxm; exact bd_ord2 (hm.elim (fun q => Or.inl ⟨q.1, q.2, hxm.elim (fun r => r.2) (fun r => by exfalso; rw [q.1] at r; revert r; rintro ⟨r | r, -⟩ <;> exact absurd r (by decide +kernel))⟩) (fun q => q.1.elim Or.inr (fun q => by rw [q] at hc27; exact absurd hc27 (by decide +kernel)))), rfl⟩
    · refine lv_aload_n hx hb dX3_order_30 rfl (lv_at hl 1 rfl) ?_
      refine lv_aload_n hx hb dX3_order_31 rfl (lv_at hl 0 rfl) ?_
      refine bd_cip (As := [.ref h]) (rest := []) C (c3_ows _ _ _ _ _ x h hmx hh hzx hz h24x h24 hfx hf htx ht) (cwV 1 hts gX3_order_X3_orderWithoutSign rfl rfl rfl (by decide +kernel) ⟨Nat.le_of_ble_eq_true rfl, Nat.le_of_ble_eq_true rfl⟩) hsz hw (bd_recv C hw hmx) dX3_order_32 rfl hl.1 rfl (by decide) ⟨Nat.le_refl _, Nat.le_refl _⟩ (fun H locs hw => ?_)
      refine lv_goto (tgt := 43) hx hb dX3_order_35 (by decide) ?_
      exact bd_iret C hr hlk hw dX3_order_43 ⟨by show _ = q_i3 (g.toInt * _) (gx.toInt * _); rw [← hc8]; exact bd_ord3 (hm.elim (fun q => absurd (by rw [q.1]; decide +kernel) hc27) (fun q => q.1.elim (fun q => absurd (by rw [q]; decide +kernel) hc27) id)), rfl⟩
  · refine lv_aload_n hx hb dX3_order_11 rfl (lv_at hl 0 rfl) ?_
    refine bd_gsg C i3 hw hh hz dX3_order_12 lk13 ?_
    refine lv_aload_n hx hb dX3_order_15 rfl (lv_at hl 1 rfl) ?_
    refine bd_gsg C i3 hw hmx hzx dX3_order_16 lk13 ?_
    refine bd_sip (As := [.int g, .int gx]) (rest := []) C (cJ_cmpI _ _ _ _ _ 0 g gx) (va_cwS 2 hts gX3_order_J6_compare_7cf53 rfl rfl rfl (by decide +kernel) ⟨Nat.le_of_ble_eq_true rfl, Nat.le_of_ble_eq_true rfl⟩) hsz hw dX3_order_19 rfl hl.1 rfl (by decide) ⟨Nat.le_refl _, Nat.le_refl _⟩ (fun H locs hw => ?_)
    exact bd_iret C hr hlk hw dX3_order_22 (⟨bd_ord1 hm hxm hc8, rfl⟩)
set_option maxHeartbeats 4000000 in
set_option maxRecDepth 100000 in
/-- Whole.dropSign() -/
theorem c3_dropSign (l : Launch) (K : Cxt) (E : Nat → va_E) (z0 : Nat → Wh) (sz h : Nat)  (hh : h ∈ bd_N K) {n : Nat} {g : Int32} {f : Nat → Nat} (hz : z0 h = (n, g, f)) : Met l yX3_dropSign wsX3_dropSign ({ frames := 1, cells := 0, slots := 0, locals := 30 }) (va_Pc [.ref h] (bd_P K E z0 sz)) (va_Qv (fun u => u.1 = E ∧ u.2 h = (n, (if 0 ≤ g then g else 0 - g), f) ∧ ∀ b, b ≠ h → u.2 b = z0 b) (bd_B K) (bd_A K sz)) 0 0 (bd_A K sz) := by
  refine bd_ofW (cc := cX3_dropSign) (maxL := 1) (ret := none) (by decide) rfl (Nat.le_of_ble_eq_true rfl) ?_
  intro p e s m below meth c ls C hr hlk hsz hw hl
  have hx := C.1
  have hb := C.2.1
  have hown := C.2.2.2.1
  have hts := C.2.2.2.2.1
  have i3 : ∀ w ∈ wsX30, w ∈ wsX3_dropSign := by decide +kernel
  have lk13 : Cond.fieldLink RX3 13 "BallDesk$Whole" "sign" "I" ∈ wsX3_dropSign := by decide +kernel
  have ho : ∀ b, b ≠ h → z0 b = z0 b := fun _ _ => rfl
  have hl : lv_has ls 1 [(0, .ref h)] := hl
  refine lv_aload_n hx hb dX3_dropSign_0 rfl (lv_at hl 0 rfl) ?_
  refine lv_aload_n hx hb dX3_dropSign_1 rfl (lv_at hl 0 rfl) ?_
  refine bd_gsg C i3 hw hh hz dX3_dropSign_2 lk13 ?_
  refine va_mabs hx hb (C.2.2.1.trans hl.1.symm) hown (hts (.methodLink RX3 48 Lib.Math.abs.name) (by decide +kernel)) (hts (.static Lib.Math.abs.name) (by decide +kernel)) (hts (.initialized "java/lang/Math") (by decide +kernel)) (hts (.code Lib.Math.abs.name Lib.Math.abs.code 1 (some .int)) (by decide +kernel)) (Nat.le_of_ble_eq_true rfl) (Nat.le_of_ble_eq_true rfl) (Nat.le_refl _) (Nat.le_refl _) dX3_dropSign_5 ?_
  refine bd_psg C i3 hw hh hz dX3_dropSign_8 lk13 (fun z H locs hz hfr hw => ?_)
  have hz : z h = (n, (if 0 ≤ g then g else 0 - g), f) := hz
  have ho := bd_tr hfr ho
  exact bd_vret C hr hlk hw dX3_dropSign_11 (⟨rfl, hz, ho⟩)
set_option maxHeartbeats 4000000 in
set_option maxRecDepth 100000 in
/-- Whole.isSpent() -/
theorem c3_isSpent (l : Launch) (K : Cxt) (E : Nat → va_E) (z0 : Nat → Wh) (sz h : Nat) {v : Int} (hh : h ∈ bd_N K) {n : Nat} {g : Int32} {f : Nat → Nat} (hz : z0 h = (n, g, f)) (hv : bd_n (n, g, f) v) : Met l yX3_isSpent wsX3_isSpent ({ frames := 0, cells := 0, slots := 0, locals := 0 }) (va_Pc [.ref h] (bd_P K E z0 sz)) (va_Qi (fun r u => r = (if v = 0 ∨ v = -1 then 1 else 0) ∧ u = (E, z0)) (bd_B K) (bd_A K sz)) 0 0 (bd_A K sz) := by
  refine bd_ofW (cc := cX3_isSpent) (maxL := 1) (ret := (some .boolean)) (by decide) rfl (Nat.le_of_ble_eq_true rfl) ?_
  intro p e s m below meth c ls C hr hlk hsz hw hl
  have hx := C.1
  have hb := C.2.1
  have hown := C.2.2.2.1
  have hts := C.2.2.2.2.1
  have i3 : ∀ w ∈ wsX30, w ∈ wsX3_isSpent := by decide +kernel
  have lk13 : Cond.fieldLink RX3 13 "BallDesk$Whole" "sign" "I" ∈ wsX3_isSpent := by decide +kernel
  have lk17 : Cond.fieldLink RX3 17 "BallDesk$Whole" "size" "I" ∈ wsX3_isSpent := by decide +kernel
  have lk9 : Cond.fieldLink RX3 9 "BallDesk$Whole" "row" "[J" ∈ wsX3_isSpent := by decide +kernel
  have ho : ∀ b, b ≠ h → z0 b = z0 b := fun _ _ => rfl
  have hl : lv_has ls 1 [(0, .ref h)] := hl
  have hsg := bd_n_sg hv
  have hma := bd_n_m hv
  obtain ⟨h24, hf, ht⟩ := bd_ok_sz hv.1
  refine lv_aload_n hx hb dX3_isSpent_0 rfl (lv_at hl 0 rfl) ?_
  refine bd_gsg C i3 hw hh hz dX3_isSpent_1 lk13 ?_
  refine lv_if_eq (tgt := 33) hx hb dX3_isSpent_4 (by decide) (fun hc4 => ?_) (fun hc4 => ?_)
  · have hone : v = 0 ∨ v = -1 := Or.inl (hsg.elim (fun q => q.2) (fun q => q.elim (fun q => absurd hc4 (by rw [q.1]; decide +kernel)) (fun q => absurd hc4 (by rw [q.1]; decide +kernel))))
    refine lv_iconst (v := 1) hx hb dX3_isSpent_33 (by decide) ?_
    refine lv_goto (tgt := 38) hx hb dX3_isSpent_34 (by decide) ?_
    exact bd_zret C hr hlk hw dX3_isSpent_38 (Or.inr rfl) ⟨(if_pos hone).symm, rfl⟩
  · refine lv_aload_n hx hb dX3_isSpent_7 rfl (lv_at hl 0 rfl) ?_
    refine bd_gsg C i3 hw hh hz dX3_isSpent_8 lk13 ?_
    refine lv_if_ge (tgt := 37) hx hb dX3_isSpent_11 (by decide) (fun hc11 => ?_) (fun hc11 => ?_)
    · have hone : ¬ (v = 0 ∨ v = -1) := by rcases hsg with q | q | q <;> first | exact absurd q.1 hc4 | omega | exact absurd hc11 (by rw [q.1]; decide +kernel)
      refine lv_iconst (v := 0) hx hb dX3_isSpent_37 (by decide) ?_
      exact bd_zret C hr hlk hw dX3_isSpent_38 (Or.inl rfl) ⟨(if_neg hone).symm, rfl⟩
    · refine lv_aload_n hx hb dX3_isSpent_14 rfl (lv_at hl 0 rfl) ?_
      refine bd_gsz C i3 hw hh hz dX3_isSpent_15 lk17 ?_
      refine lv_iconst (v := nI 1) hx hb dX3_isSpent_18 (by decide) ?_
      refine bd_ine (h1 := (by omega)) (h2 := (by omega)) (tgt := 37) hx hb dX3_isSpent_19 (by decide) (fun hc19 => ?_) (fun hc19 => ?_)
      · have hv0 : v < 0 := by rcases hsg with q | q | q <;> first | exact absurd q.1 hc4 | exact absurd (by rw [q.1]; decide +kernel) hc11 | exact q.2
        have hone : ¬ (v = 0 ∨ v = -1) := by
          rintro (q | q)
          · omega
          · have h1 : q_s f n = 1 := by rw [hma, q]; rfl
            rcases Nat.eq_zero_or_pos n with r | r
            · rw [r] at h1; exact absurd h1 (by simp [q_s])
            · have h2 := q_tple r ht
              have h3 : 4294967296 ^ 1 ≤ 4294967296 ^ (n - 1) := Nat.pow_le_pow_right (by decide) (by omega)
              omega
        refine lv_iconst (v := 0) hx hb dX3_isSpent_37 (by decide) ?_
        exact bd_zret C hr hlk hw dX3_isSpent_38 (Or.inl rfl) ⟨(if_neg hone).symm, rfl⟩
      · subst hc19
        refine lv_aload_n hx hb dX3_isSpent_22 rfl (lv_at hl 0 rfl) ?_
        refine bd_grw C i3 hw hh hz dX3_isSpent_23 lk9 ?_
        refine lv_iconst (v := nI 0) hx hb dX3_isSpent_26 (by decide) ?_
        refine bd_ald C hw hh hz dX3_isSpent_27 (by decide) ?_
        refine lv_lconst (v := lN 1) hx hb dX3_isSpent_28 rfl ?_
        refine bd_lne (h1 := (q_r63 hf (by decide))) (h2 := (by decide)) (tgt := 37) hx hb dX3_isSpent_29 dX3_isSpent_30 (by decide) (fun hc29 => ?_) (fun hc29 => ?_)
        · have hv0 : v < 0 := by rcases hsg with q | q | q <;> first | exact absurd q.1 hc4 | exact absurd (by rw [q.1]; decide +kernel) hc11 | exact q.2
          have h1 : q_s f 1 = f 0 := by show 0 + f 0 * 4294967296 ^ 0 = f 0; rw [Nat.pow_zero]; omega
          have hone : ¬ (v = 0 ∨ v = -1) := by omega
          refine lv_iconst (v := 0) hx hb dX3_isSpent_37 (by decide) ?_
          exact bd_zret C hr hlk hw dX3_isSpent_38 (Or.inl rfl) ⟨(if_neg hone).symm, rfl⟩
        · have hv0 : v < 0 := by rcases hsg with q | q | q <;> first | exact absurd q.1 hc4 | exact absurd (by rw [q.1]; decide +kernel) hc11 | exact q.2
          have h1 : q_s f 1 = f 0 := by show 0 + f 0 * 4294967296 ^ 0 = f 0; rw [Nat.pow_zero]; omega
          have hone : v = 0 ∨ v = -1 := by omega
          refine lv_iconst (v := 1) hx hb dX3_isSpent_33 (by decide) ?_
          refine lv_goto (tgt := 38) hx hb dX3_isSpent_34 (by decide) ?_
          exact bd_zret C hr hlk hw dX3_isSpent_38 (Or.inr rfl) ⟨(if_pos hone).symm, rfl⟩
set_option maxHeartbeats 4000000 in
set_option maxRecDepth 100000 in
/-- Whole.become(x) -/
theorem c3_become_ (l : Launch) (K : Cxt) (E : Nat → va_E) (z0 : Nat → Wh) (sz h : Nat) (x : Nat) (hh : h ∈ bd_N K) (hmx : x ∈ bd_N K) {n nx : Nat} {g gx : Int32} {f fx : Nat → Nat} {v : Int} (hz : z0 h = (n, g, f)) (hzx : z0 x = (nx, gx, fx)) (hf : q_r f) (hv : bd_n (nx, gx, fx) v) : Met l yX3_become_ wsX3_become_ ({ frames := 1, cells := 0, slots := 0, locals := 40 }) (va_Pc [.ref h, .ref x] (bd_P K E z0 sz)) (va_Qv (fun u => u.1 = E ∧ bd_n (u.2 h) v ∧ ∀ b, b ≠ h → u.2 b = z0 b) (bd_B K) (bd_A K sz)) 0 0 (bd_A K sz) := by
  refine bd_ofW (cc := cX3_become_) (maxL := 2) (ret := none) (by decide) rfl (Nat.le_of_ble_eq_true rfl) ?_
  intro p e s m below meth c ls C hr hlk hsz hw hl
  have hx := C.1
  have hb := C.2.1
  have hown := C.2.2.2.1
  have hts := C.2.2.2.2.1
  have i3 : ∀ w ∈ wsX30, w ∈ wsX3_become_ := by decide +kernel
  have lk9 : Cond.fieldLink RX3 9 "BallDesk$Whole" "row" "[J" ∈ wsX3_become_ := by decide +kernel
  have lk17 : Cond.fieldLink RX3 17 "BallDesk$Whole" "size" "I" ∈ wsX3_become_ := by decide +kernel
  have lk13 : Cond.fieldLink RX3 13 "BallDesk$Whole" "sign" "I" ∈ wsX3_become_ := by decide +kernel
  have ho : ∀ b, b ≠ h → z0 b = z0 b := fun _ _ => rfl
  have hl : lv_has ls 2 [(0, .ref h), (1, .ref x)] := hl
  obtain ⟨h24x, hfx, htx⟩ := bd_ok_sz hv.1
  refine lv_aload_n hx hb dX3_become__0 rfl (lv_at hl 1 rfl) ?_
  refine bd_grw C i3 hw hmx hzx dX3_become__1 lk9 ?_
  refine lv_iconst (v := nI 0) hx hb dX3_become__4 (by decide) ?_
  refine lv_aload_n hx hb dX3_become__5 rfl (lv_at hl 0 rfl) ?_
  refine bd_grw C i3 hw hh hz dX3_become__6 lk9 ?_
  refine lv_iconst (v := nI 0) hx hb dX3_become__9 (by decide) ?_
  refine lv_aload_n hx hb dX3_become__10 rfl (lv_at hl 1 rfl) ?_
  refine bd_gsz C i3 hw hmx hzx dX3_become__11 lk17 ?_
  refine bd_cpy C hl.1 hw hh hmx hz hzx h24x dX3_become__14 (by decide +kernel) (by decide +kernel) (by decide +kernel) (by decide +kernel) (Nat.le_of_ble_eq_true rfl) (Nat.le_of_ble_eq_true rfl) (fun z H locs hz1 hfr hw => ?_)
  obtain ⟨f2, hzx⟩ := bd_al2 hz hz1 hfr hzx
  have hz := hz1
  have ho := bd_tr hfr ho
  refine lv_aload_n hx hb dX3_become__17 rfl (lv_at hl 0 rfl) ?_
  refine lv_aload_n hx hb dX3_become__18 rfl (lv_at hl 1 rfl) ?_
  refine bd_gsz C i3 hw hmx hzx dX3_become__19 lk17 ?_
  refine bd_psz C i3 hw hh hz dX3_become__22 lk17 (fun z H locs hz1 hfr hw => ?_)
  obtain ⟨n2, hzx⟩ := bd_al3 hz hz1 hfr hzx
  have hz := hz1
  have ho := bd_tr hfr ho
  refine lv_aload_n hx hb dX3_become__25 rfl (lv_at hl 0 rfl) ?_
  refine lv_aload_n hx hb dX3_become__26 rfl (lv_at hl 1 rfl) ?_
  refine bd_gsg C i3 hw hmx hzx dX3_become__27 lk13 ?_
  refine bd_psg C i3 hw hh hz dX3_become__30 lk13 (fun z H locs hz hfr hw => ?_)
  have ho := bd_tr hfr ho
  exact bd_vret C hr hlk hw dX3_become__33 (⟨rfl, by rw [show (E, z).2 h = _ from hz]; exact bd_n_copy hv (q_r_if hfx hf) (fun j hj => if_pos hj), ho⟩)
