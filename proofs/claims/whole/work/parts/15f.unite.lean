/-! Whole: unite, sum, difference (laid by wip/gen/m_whole6.py) -/
set_option maxHeartbeats 4000000 in
set_option maxRecDepth 100000 in
/-- Whole.unite(x, y, ys) -/
theorem c3_unite (l : Launch) (K : Cxt) (E : Nat → va_E) (z0 : Nat → Wh) (sz h : Nat) (x y : Nat) (ys : Int32) (hh : h ∈ bd_N K) (hmx : x ∈ bd_N K) (hmy : y ∈ bd_N K) {n nx ny : Nat} {g gx gy : Int32} {f fx fy : Nat → Nat} (hz : z0 h = (n, g, f)) (hzx : z0 x = (nx, gx, fx)) (hzy : z0 y = (ny, gy, fy)) (hf : q_r f) (okx : bd_ok (nx, gx, fx)) (oky : bd_ok (ny, gy, fy)) (hs : q_s fx nx + q_s fy ny < 4294967296 ^ 24) (hys : (ys = 0 ∧ q_s fy ny = 0) ∨ ((ys = 1 ∨ ys = -1) ∧ 0 < q_s fy ny)) : Met l yX3_unite wsX3_unite ({ frames := 2, cells := 0, slots := 0, locals := 60 }) (va_Pc [.ref h, .ref x, .ref y, .int ys] (bd_P K E z0 sz)) (va_Qv (fun u => u.1 = E ∧ bd_n (u.2 h) (gx.toInt * (q_s fx nx : Int) + ys.toInt * (q_s fy ny : Int)) ∧ ∀ b, b ≠ h → u.2 b = z0 b) (bd_B K) (bd_A K sz)) 0 0 (bd_A K sz) := by
  refine bd_ofW (cc := cX3_unite) (maxL := 6) (ret := none) (by decide) rfl (Nat.le_of_ble_eq_true rfl) ?_
  intro p e s m below meth c ls C hr hlk hsz hw hl
  have hx := C.1
  have hb := C.2.1
  have hown := C.2.2.2.1
  have hts := C.2.2.2.2.1
  have i3 : ∀ w ∈ wsX30, w ∈ wsX3_unite := by decide +kernel
  have lk13 : Cond.fieldLink RX3 13 "BallDesk$Whole" "sign" "I" ∈ wsX3_unite := by decide +kernel
  have ho : ∀ b, b ≠ h → z0 b = z0 b := fun _ _ => rfl
  have hl : lv_has ls 6 [(0, .ref h), (1, .ref x), (2, .ref y), (3, .int ys)] := hl
  have hxm := bd_ok_m okx
  obtain ⟨h24x, hfx, htx, -⟩ := okx
  obtain ⟨h24y, hfy, hty, -⟩ := oky
  have h24x : nx ≤ 24 := h24x
  have h24y : ny ≤ 24 := h24y
  refine lv_aload_n hx hb dX3_unite_0 rfl (lv_at hl 1 rfl) ?_
  refine bd_gsg C i3 hw hmx hzx dX3_unite_1 lk13 ?_
  refine lv_istore (lv' := [(4, .int gx), (0, .ref h), (1, .ref x), (2, .ref y), (3, .int ys)]) hx hb dX3_unite_4 hl (by decide) rfl (fun ls hl => ?_)
  refine lv_iload hx hb dX3_unite_6 (lv_at hl 0 rfl) ?_
  refine lv_iload_n hx hb dX3_unite_8 rfl (lv_at hl 4 rfl) ?_
  refine bd_imul (v := (gx * ys)) hx hb dX3_unite_9 (rfl) ?_
  refine lv_if_lt (tgt := 39) hx hb dX3_unite_10 (by decide) (fun hc10 => ?_) (fun hc10 => ?_)
  · refine lv_aload_n hx hb dX3_unite_39 rfl (lv_at hl 2 rfl) ?_
    refine lv_aload_n hx hb dX3_unite_40 rfl (lv_at hl 3 rfl) ?_
    refine bd_cip (As := [.ref y]) (rest := []) C (c3_ows _ _ _ _ _ x y hmx hmy hzx hzy h24x h24y hfx hfy htx hty) (cwV 1 hts gX3_unite_X3_orderWithoutSign rfl rfl rfl (by decide +kernel) ⟨Nat.le_of_ble_eq_true rfl, Nat.le_of_ble_eq_true rfl⟩) hsz hw (bd_recv C hw hmx) dX3_unite_41 rfl hl.1 rfl (by decide) ⟨Nat.le_refl _, Nat.le_refl _⟩ (fun H locs hw => ?_)
    refine lv_if_lt (tgt := 64) hx hb dX3_unite_44 (by decide) (fun hc44 => ?_) (fun hc44 => ?_)
    · refine lv_aload_n hx hb dX3_unite_64 rfl (lv_at hl 1 rfl) ?_
      refine lv_aload_n hx hb dX3_unite_65 rfl (lv_at hl 3 rfl) ?_
      refine lv_aload_n hx hb dX3_unite_66 rfl (lv_at hl 2 rfl) ?_
      have hle := Nat.le_of_lt (q_c3_l hc44)
      refine bd_ci (As := [.ref y, .ref x]) (rest := []) C (c3_subtract _ _ _ _ _ _ y x hh hmy hmx hz hzy hzx hf h24y h24x hfy hfx (q_szle (q_r_ok hfy h24y) htx hle) hle) (cwV 2 hts gX3_unite_X3_subtract rfl rfl rfl (by decide +kernel) ⟨Nat.le_of_ble_eq_true rfl, Nat.le_of_ble_eq_true rfl⟩) hsz hw (bd_recv C hw hh) dX3_unite_67 rfl hl.1 rfl (by decide) ⟨Nat.le_refl _, Nat.le_refl _⟩ (fun r67 E1 z H locs hp hw => ?_)
      obtain ⟨n1, f1, hr1, hn1, hf1, hq1, hE, hz1, hfr⟩ := hp
      subst hr1
      rw [show E1 = E from hE] at hw
      have hz1 : z h = (n, g, f1) := hz1
      have ho := bd_tr (z2 := z) hfr ho
      refine lv_istore (lv' := [(5, .int (nI n1)), (4, .int gx), (0, .ref h), (1, .ref x), (2, .ref y), (3, .int ys)]) hx hb dX3_unite_70 hl (by decide) rfl (fun ls hl => ?_)
      refine lv_aload_n hx hb dX3_unite_72 rfl (lv_at hl 2 rfl) ?_
      refine lv_iload_n hx hb dX3_unite_73 rfl (lv_at hl 5 rfl) ?_
      refine bd_psg C i3 hw hh hz1 dX3_unite_74 lk13 (fun z H locs hz1 hfr hw => ?_)
      have hz1 : z h = (n, ys, f1) := hz1
      have ho := bd_tr hfr ho
      refine lv_aload_n hx hb dX3_unite_77 rfl (lv_at hl 2 rfl) ?_
      refine lv_iload hx hb dX3_unite_78 (lv_at hl 0 rfl) ?_
      refine bd_cv (As := [.int (nI n1)]) (rest := []) C (c3_trim _ _ _ _ _ _ n1 hh hz1 hn1 hf1) (cwV 1 hts gX3_unite_X3_trim rfl rfl rfl (by decide +kernel) ⟨Nat.le_of_ble_eq_true rfl, Nat.le_of_ble_eq_true rfl⟩) hsz hw (bd_recv C hw hh) dX3_unite_80 rfl hl.1 rfl (by decide) ⟨Nat.le_refl _, Nat.le_refl _⟩ (fun E1 z H locs hp hw => ?_)
      obtain ⟨hE, hz2, hfr⟩ := hp
      rw [show E1 = E from hE] at hw
      have ho := bd_tr (z2 := z) hfr ho
      have hn2 : bd_n (q_tr f1 n1, (if q_tr f1 n1 = 0 then 0 else ys), f1) (gx.toInt * (q_s fx nx : Int) + ys.toInt * (q_s fy ny : Int)) := by
        rcases bd_un2 hxm hys hc10 with ⟨rfl, rfl⟩ | ⟨rfl, rfl⟩
        · exact bd_fin hf1 hn1 (Or.inl (by decide +kernel)) (by rw [hq1, Int.ofNat_sub hle]; simp only [i1, im1]; omega)
        · exact bd_fin hf1 hn1 (Or.inl (by decide +kernel)) (by rw [hq1, Int.ofNat_sub hle]; simp only [i1, im1]; omega)
      exact bd_vret C hr hlk hw dX3_unite_83 ⟨rfl, by rw [show (E, z).2 h = _ from hz2]; exact hn2, ho⟩
    · refine lv_aload_n hx hb dX3_unite_47 rfl (lv_at hl 1 rfl) ?_
      refine lv_aload_n hx hb dX3_unite_48 rfl (lv_at hl 2 rfl) ?_
      refine lv_aload_n hx hb dX3_unite_49 rfl (lv_at hl 3 rfl) ?_
      have hle := q_c3_ge hc44
      refine bd_ci (As := [.ref x, .ref y]) (rest := []) C (c3_subtract _ _ _ _ _ _ x y hh hmx hmy hz hzx hzy hf h24x h24y hfx hfy (q_szle (q_r_ok hfx h24x) hty hle) hle) (cwV 2 hts gX3_unite_X3_subtract rfl rfl rfl (by decide +kernel) ⟨Nat.le_of_ble_eq_true rfl, Nat.le_of_ble_eq_true rfl⟩) hsz hw (bd_recv C hw hh) dX3_unite_50 rfl hl.1 rfl (by decide) ⟨Nat.le_refl _, Nat.le_refl _⟩ (fun r50 E1 z H locs hp hw => ?_)
      obtain ⟨n1, f1, hr1, hn1, hf1, hq1, hE, hz1, hfr⟩ := hp
      subst hr1
      rw [show E1 = E from hE] at hw
      have hz1 : z h = (n, g, f1) := hz1
      have ho := bd_tr (z2 := z) hfr ho
      refine lv_istore (lv' := [(5, .int (nI n1)), (4, .int gx), (0, .ref h), (1, .ref x), (2, .ref y), (3, .int ys)]) hx hb dX3_unite_53 hl (by decide) rfl (fun ls hl => ?_)
      refine lv_aload_n hx hb dX3_unite_55 rfl (lv_at hl 2 rfl) ?_
      refine lv_iload hx hb dX3_unite_56 (lv_at hl 1 rfl) ?_
      refine bd_psg C i3 hw hh hz1 dX3_unite_58 lk13 (fun z H locs hz1 hfr hw => ?_)
      have hz1 : z h = (n, gx, f1) := hz1
      have ho := bd_tr hfr ho
      refine lv_goto (tgt := 77) hx hb dX3_unite_61 (by decide) ?_
      refine lv_aload_n hx hb dX3_unite_77 rfl (lv_at hl 2 rfl) ?_
      refine lv_iload hx hb dX3_unite_78 (lv_at hl 0 rfl) ?_
      refine bd_cv (As := [.int (nI n1)]) (rest := []) C (c3_trim _ _ _ _ _ _ n1 hh hz1 hn1 hf1) (cwV 1 hts gX3_unite_X3_trim rfl rfl rfl (by decide +kernel) ⟨Nat.le_of_ble_eq_true rfl, Nat.le_of_ble_eq_true rfl⟩) hsz hw (bd_recv C hw hh) dX3_unite_80 rfl hl.1 rfl (by decide) ⟨Nat.le_refl _, Nat.le_refl _⟩ (fun E1 z H locs hp hw => ?_)
      obtain ⟨hE, hz2, hfr⟩ := hp
      rw [show E1 = E from hE] at hw
      have ho := bd_tr (z2 := z) hfr ho
      have hn2 : bd_n (q_tr f1 n1, (if q_tr f1 n1 = 0 then 0 else gx), f1) (gx.toInt * (q_s fx nx : Int) + ys.toInt * (q_s fy ny : Int)) := by
        rcases bd_un2 hxm hys hc10 with ⟨rfl, rfl⟩ | ⟨rfl, rfl⟩
        · exact bd_fin hf1 hn1 (Or.inl (by decide +kernel)) (by rw [hq1, Int.ofNat_sub hle]; simp only [i1, im1]; omega)
        · exact bd_fin hf1 hn1 (Or.inl (by decide +kernel)) (by rw [hq1, Int.ofNat_sub hle]; simp only [i1, im1]; omega)
      exact bd_vret C hr hlk hw dX3_unite_83 ⟨rfl, by rw [show (E, z).2 h = _ from hz2]; exact hn2, ho⟩
  · refine lv_aload_n hx hb dX3_unite_13 rfl (lv_at hl 1 rfl) ?_
    refine lv_aload_n hx hb dX3_unite_14 rfl (lv_at hl 2 rfl) ?_
    refine lv_aload_n hx hb dX3_unite_15 rfl (lv_at hl 3 rfl) ?_
    refine bd_ci (As := [.ref x, .ref y]) (rest := []) C (c3_gather _ _ _ _ _ _ x y hh hmx hmy hz hzx hzy hf h24x h24y hfx hfy hs) (cwV 2 hts gX3_unite_X3_gather rfl rfl rfl (by decide +kernel) ⟨Nat.le_of_ble_eq_true rfl, Nat.le_of_ble_eq_true rfl⟩) hsz hw (bd_recv C hw hh) dX3_unite_16 rfl hl.1 rfl (by decide) ⟨Nat.le_refl _, Nat.le_refl _⟩ (fun r16 E1 z H locs hp hw => ?_)
    obtain ⟨n1, f1, hr1, hn1, hf1, hq1, hE, hz1, hfr⟩ := hp
    subst hr1
    rw [show E1 = E from hE] at hw
    have hz1 : z h = (n, g, f1) := hz1
    have ho := bd_tr (z2 := z) hfr ho
    refine lv_istore (lv' := [(5, .int (nI n1)), (4, .int gx), (0, .ref h), (1, .ref x), (2, .ref y), (3, .int ys)]) hx hb dX3_unite_19 hl (by decide) rfl (fun ls hl => ?_)
    refine lv_aload_n hx hb dX3_unite_21 rfl (lv_at hl 2 rfl) ?_
    suffices hj33 : W p l e (headSpec wsX3_unite ({ frames := 2, cells := 0, slots := 0, locals := 60 })).room s m [.ref h, .ref x, .ref y, .int ys].toArray below meth c H locs 0 0 (MQ below (va_Qv (fun u => u.1 = E ∧ bd_n (u.2 h) (gx.toInt * (q_s fx nx : Int) + ys.toInt * (q_s fy ny : Int)) ∧ ∀ b, b ≠ h → u.2 b = z0 b) (bd_B K) (bd_A K sz)) [.ref h, .ref x, .ref y, .int ys].toArray s 0 0 (bd_A K sz)) (F0 m 33 ls [.int (if gx = 0 then ys else gx), .ref h]) by
      refine lv_iload hx hb dX3_unite_22 (lv_at hl 1 rfl) ?_
      refine lv_if_ne (tgt := 31) hx hb dX3_unite_24 (by decide) (fun hc24 => ?_) (fun hc24 => ?_)
      · refine lv_iload hx hb dX3_unite_31 (lv_at hl 1 rfl) ?_
        rw [if_neg hc24] at hj33
        exact hj33
      · refine lv_iload_n hx hb dX3_unite_27 rfl (lv_at hl 5 rfl) ?_
        refine lv_goto (tgt := 33) hx hb dX3_unite_28 (by decide) ?_
        rw [if_pos hc24] at hj33
        exact hj33
    refine bd_psg C i3 hw hh hz1 dX3_unite_33 lk13 (fun z H locs hz1 hfr hw => ?_)
    have hz1 : z h = (n, (if gx = 0 then ys else gx), f1) := hz1
    have ho := bd_tr hfr ho
    refine lv_goto (tgt := 77) hx hb dX3_unite_36 (by decide) ?_
    refine lv_aload_n hx hb dX3_unite_77 rfl (lv_at hl 2 rfl) ?_
    refine lv_iload hx hb dX3_unite_78 (lv_at hl 0 rfl) ?_
    refine bd_cv (As := [.int (nI n1)]) (rest := []) C (c3_trim _ _ _ _ _ _ n1 hh hz1 hn1 hf1) (cwV 1 hts gX3_unite_X3_trim rfl rfl rfl (by decide +kernel) ⟨Nat.le_of_ble_eq_true rfl, Nat.le_of_ble_eq_true rfl⟩) hsz hw (bd_recv C hw hh) dX3_unite_80 rfl hl.1 rfl (by decide) ⟨Nat.le_refl _, Nat.le_refl _⟩ (fun E1 z H locs hp hw => ?_)
    obtain ⟨hE, hz2, hfr⟩ := hp
    rw [show E1 = E from hE] at hw
    have ho := bd_tr (z2 := z) hfr ho
    have hu := bd_un1 hxm hys hc10 hq1
    exact bd_vret C hr hlk hw dX3_unite_83 ⟨rfl, by rw [show (E, z).2 h = _ from hz2]; exact bd_fin hf1 hn1 hu.1 hu.2, ho⟩
set_option maxHeartbeats 4000000 in
set_option maxRecDepth 100000 in
/-- Whole.sum(x, y) -/
theorem c3_sum (l : Launch) (K : Cxt) (E : Nat → va_E) (z0 : Nat → Wh) (sz h : Nat) (x y : Nat) (hh : h ∈ bd_N K) (hmx : x ∈ bd_N K) (hmy : y ∈ bd_N K) {n nx ny : Nat} {g gx gy : Int32} {f fx fy : Nat → Nat} (hz : z0 h = (n, g, f)) (hzx : z0 x = (nx, gx, fx)) (hzy : z0 y = (ny, gy, fy)) (hf : q_r f) (okx : bd_ok (nx, gx, fx)) (oky : bd_ok (ny, gy, fy)) (hs : q_s fx nx + q_s fy ny < 4294967296 ^ 24) : Met l yX3_sum wsX3_sum ({ frames := 3, cells := 0, slots := 0, locals := 90 }) (va_Pc [.ref h, .ref x, .ref y] (bd_P K E z0 sz)) (va_Qv (fun u => u.1 = E ∧ bd_n (u.2 h) (bd_v (nx, gx, fx) + bd_v (ny, gy, fy)) ∧ ∀ b, b ≠ h → u.2 b = z0 b) (bd_B K) (bd_A K sz)) 0 0 (bd_A K sz) := by
  refine bd_ofW (cc := cX3_sum) (maxL := 3) (ret := none) (by decide) rfl (Nat.le_of_ble_eq_true rfl) ?_
  intro p e s m below meth c ls C hr hlk hsz hw hl
  have hx := C.1
  have hb := C.2.1
  have hown := C.2.2.2.1
  have hts := C.2.2.2.2.1
  have i3 : ∀ w ∈ wsX30, w ∈ wsX3_sum := by decide +kernel
  have lk13 : Cond.fieldLink RX3 13 "BallDesk$Whole" "sign" "I" ∈ wsX3_sum := by decide +kernel
  have ho : ∀ b, b ≠ h → z0 b = z0 b := fun _ _ => rfl
  have hl : lv_has ls 3 [(0, .ref h), (1, .ref x), (2, .ref y)] := hl
  refine lv_aload_n hx hb dX3_sum_0 rfl (lv_at hl 0 rfl) ?_
  refine lv_aload_n hx hb dX3_sum_1 rfl (lv_at hl 1 rfl) ?_
  refine lv_aload_n hx hb dX3_sum_2 rfl (lv_at hl 2 rfl) ?_
  refine lv_aload_n hx hb dX3_sum_3 rfl (lv_at hl 2 rfl) ?_
  refine bd_gsg C i3 hw hmy hzy dX3_sum_4 lk13 ?_
  have hys : (gy = 0 ∧ q_s fy ny = 0) ∨ ((gy = 1 ∨ gy = -1) ∧ 0 < q_s fy ny) := by
    rcases bd_ok_m oky with ⟨h1, h2⟩ | ⟨h1 | h1, h2⟩
    · exact Or.inl ⟨h1, h2⟩
    · exact Or.inr ⟨Or.inl h1, h2⟩
    · exact Or.inr ⟨Or.inr h1, h2⟩
  refine bd_cv (As := [.ref x, .ref y, .int gy]) (rest := []) C (c3_unite _ _ _ _ _ _ x y gy hh hmx hmy hz hzx hzy hf okx oky hs hys) (cwV 3 hts gX3_sum_X3_unite rfl rfl rfl (by decide +kernel) ⟨Nat.le_of_ble_eq_true rfl, Nat.le_of_ble_eq_true rfl⟩) hsz hw (bd_recv C hw hh) dX3_sum_7 rfl hl.1 rfl (by decide) ⟨Nat.le_refl _, Nat.le_refl _⟩ (fun E1 z H locs hp hw => ?_)
  obtain ⟨hE, hn2, hfr⟩ := hp
  rw [show E1 = E from hE] at hw
  exact bd_vret C hr hlk hw dX3_sum_10 ⟨rfl, hn2, hfr⟩
set_option maxHeartbeats 4000000 in
set_option maxRecDepth 100000 in
/-- Whole.difference(x, y) -/
theorem c3_difference (l : Launch) (K : Cxt) (E : Nat → va_E) (z0 : Nat → Wh) (sz h : Nat) (x y : Nat) (hh : h ∈ bd_N K) (hmx : x ∈ bd_N K) (hmy : y ∈ bd_N K) {n nx ny : Nat} {g gx gy : Int32} {f fx fy : Nat → Nat} (hz : z0 h = (n, g, f)) (hzx : z0 x = (nx, gx, fx)) (hzy : z0 y = (ny, gy, fy)) (hf : q_r f) (okx : bd_ok (nx, gx, fx)) (oky : bd_ok (ny, gy, fy)) (hs : q_s fx nx + q_s fy ny < 4294967296 ^ 24) : Met l yX3_difference wsX3_difference ({ frames := 3, cells := 0, slots := 0, locals := 90 }) (va_Pc [.ref h, .ref x, .ref y] (bd_P K E z0 sz)) (va_Qv (fun u => u.1 = E ∧ bd_n (u.2 h) (bd_v (nx, gx, fx) - bd_v (ny, gy, fy)) ∧ ∀ b, b ≠ h → u.2 b = z0 b) (bd_B K) (bd_A K sz)) 0 0 (bd_A K sz) := by
  refine bd_ofW (cc := cX3_difference) (maxL := 3) (ret := none) (by decide) rfl (Nat.le_of_ble_eq_true rfl) ?_
  intro p e s m below meth c ls C hr hlk hsz hw hl
  have hx := C.1
  have hb := C.2.1
  have hown := C.2.2.2.1
  have hts := C.2.2.2.2.1
  have i3 : ∀ w ∈ wsX30, w ∈ wsX3_difference := by decide +kernel
  have lk13 : Cond.fieldLink RX3 13 "BallDesk$Whole" "sign" "I" ∈ wsX3_difference := by decide +kernel
  have ho : ∀ b, b ≠ h → z0 b = z0 b := fun _ _ => rfl
  have hl : lv_has ls 3 [(0, .ref h), (1, .ref x), (2, .ref y)] := hl
  refine lv_aload_n hx hb dX3_difference_0 rfl (lv_at hl 0 rfl) ?_
  refine lv_aload_n hx hb dX3_difference_1 rfl (lv_at hl 1 rfl) ?_
  refine lv_aload_n hx hb dX3_difference_2 rfl (lv_at hl 2 rfl) ?_
  refine lv_aload_n hx hb dX3_difference_3 rfl (lv_at hl 2 rfl) ?_
  refine bd_gsg C i3 hw hmy hzy dX3_difference_4 lk13 ?_
  refine bd_ineg (v := (-gy)) hx hb dX3_difference_7 (rfl) ?_
  have hys : ((-gy) = 0 ∧ q_s fy ny = 0) ∨ (((-gy) = 1 ∨ (-gy) = -1) ∧ 0 < q_s fy ny) := by
    rcases bd_ok_m oky with ⟨h1, h2⟩ | ⟨h1 | h1, h2⟩
    · exact Or.inl ⟨by rw [h1]; decide +kernel, h2⟩
    · exact Or.inr ⟨Or.inr (by rw [h1]), h2⟩
    · exact Or.inr ⟨Or.inl (by rw [h1]; decide +kernel), h2⟩
  refine bd_cv (As := [.ref x, .ref y, .int (-gy)]) (rest := []) C (c3_unite _ _ _ _ _ _ x y (-gy) hh hmx hmy hz hzx hzy hf okx oky hs hys) (cwV 3 hts gX3_difference_X3_unite rfl rfl rfl (by decide +kernel) ⟨Nat.le_of_ble_eq_true rfl, Nat.le_of_ble_eq_true rfl⟩) hsz hw (bd_recv C hw hh) dX3_difference_8 rfl hl.1 rfl (by decide) ⟨Nat.le_refl _, Nat.le_refl _⟩ (fun E1 z H locs hp hw => ?_)
  obtain ⟨hE, hn2, hfr⟩ := hp
  rw [show E1 = E from hE] at hw
  have h9 : (-gy).toInt = -gy.toInt := by
    rcases bd_ok_m oky with ⟨h1, h2⟩ | ⟨h1 | h1, h2⟩ <;> rw [h1] <;> decide +kernel
  rw [h9] at hn2
  exact bd_vret C hr hlk hw dX3_difference_11 ⟨rfl, ⟨hn2.1, hn2.2.trans (by show gx.toInt * (q_s fx nx : Int) + -gy.toInt * (q_s fy ny : Int) = gx.toInt * (q_s fx nx : Int) - gy.toInt * (q_s fy ny : Int); rw [Int.neg_mul]; omega)⟩, hfr⟩
