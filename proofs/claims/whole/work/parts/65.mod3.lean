/-! the model: sum, plus, minus, addSmall (laid by wip/gen/m_mod3.py) -/
theorem iZ_add (a b : Int) : iZ a + iZ b = iZ (a + b) := (Int32.ofInt_add a b).symm
theorem iZ_sub (a b : Nat) : nI a - nI b = iZ ((a : Int) - (b : Int)) := (Int32.ofInt_sub (a : Int) (b : Int)).symm
theorem i_sh24 {v : Int} (h1 : -2147483648 ≤ v) (h2 : v < 2147483648) : iZ v >>> (nI 24 &&& 31) = iZ (v / 16777216) := i_shr (k := 24) h1 h2 (by decide)
theorem sg_0 {y : Int} (h : q_sg y = 0) : y = 0 := by
  rcases sg3 y with ⟨a, b⟩ | ⟨a, b⟩ | ⟨a, b⟩
  · rw [b] at h
    exact absurd h (by decide)
  · exact a
  · rw [b] at h
    exact absurd h (by decide)
theorem sm_y (x : Int) {g : Int32} (h : g = 1 ∨ g = -1) : q_sg x * g = q_sg (g.toInt * x) ∧ (g.toInt * x).natAbs = x.natAbs := by
  rcases h with rfl | rfl
  · rw [show (1 : Int32).toInt = 1 by decide, Int.one_mul]
    exact ⟨Int32.mul_one _, rfl⟩
  · rw [show (-1 : Int32).toInt = -1 by decide, show (-1 : Int) * x = -x by omega]
    refine ⟨?_, by omega⟩
    rcases sg3 x with ⟨a, b⟩ | ⟨a, b⟩ | ⟨a, b⟩ <;> rcases sg3 (-x) with ⟨a2, b2⟩ | ⟨a2, b2⟩ | ⟨a2, b2⟩ <;> first | (exfalso; omega) | (rw [b, b2]; decide)
theorem sm_p (x y : Int) : x + (1 : Int32).toInt * y = x + y := by rw [show (1 : Int32).toInt = 1 by decide, Int.one_mul]
theorem sm_m (x y : Int) : x + (-1 : Int32).toInt * y = x - y := by rw [show (-1 : Int32).toInt = -1 by decide]; omega
theorem sm_al {x y : Int} (h : q_sg y = q_sg x) : ((x + y).natAbs : Int) = x.natAbs + 1 * y.natAbs ∧ (x + y ≠ 0 → q_sg x = q_sg (x + y)) := by
  rcases sg3 x with ⟨a, b⟩ | ⟨a, b⟩ | ⟨a, b⟩ <;> rcases sg3 y with ⟨a2, b2⟩ | ⟨a2, b2⟩ | ⟨a2, b2⟩ <;> rcases sg3 (x + y) with ⟨a3, b3⟩ | ⟨a3, b3⟩ | ⟨a3, b3⟩ <;> first | (exfalso; omega) | (exfalso; rw [b, b2] at h; exact absurd h (by decide)) | exact ⟨by omega, fun q => absurd a3 q⟩ | exact ⟨by omega, fun _ => by rw [b, b3]⟩
theorem sm_ge {x y : Int} (hx : x ≠ 0) (hy : y ≠ 0) (h : q_sg y ≠ q_sg x) (hl : y.natAbs ≤ x.natAbs) : ((x + y).natAbs : Int) = x.natAbs + (-1) * y.natAbs ∧ (x + y ≠ 0 → q_sg x = q_sg (x + y)) := by
  rcases sg3 x with ⟨a, b⟩ | ⟨a, b⟩ | ⟨a, b⟩ <;> rcases sg3 y with ⟨a2, b2⟩ | ⟨a2, b2⟩ | ⟨a2, b2⟩ <;> rcases sg3 (x + y) with ⟨a3, b3⟩ | ⟨a3, b3⟩ | ⟨a3, b3⟩ <;> first | (exfalso; omega) | (exfalso; apply h; rw [b, b2]; done) | exact ⟨by omega, fun q => absurd a3 q⟩ | exact ⟨by omega, fun _ => by rw [b, b3]⟩
theorem sm_lt {x y : Int} (hx : x ≠ 0) (hy : y ≠ 0) (h : q_sg y ≠ q_sg x) (hl : x.natAbs < y.natAbs) : ((x + y).natAbs : Int) = y.natAbs + (-1) * x.natAbs ∧ (x + y ≠ 0 → q_sg y = q_sg (x + y)) := by
  rcases sg3 x with ⟨a, b⟩ | ⟨a, b⟩ | ⟨a, b⟩ <;> rcases sg3 y with ⟨a2, b2⟩ | ⟨a2, b2⟩ | ⟨a2, b2⟩ <;> rcases sg3 (x + y) with ⟨a3, b3⟩ | ⟨a3, b3⟩ | ⟨a3, b3⟩ <;> first | (exfalso; omega) | (exfalso; apply h; rw [b, b2]; done) | exact ⟨by omega, fun q => absurd a3 q⟩ | exact ⟨by omega, fun _ => by rw [b2, b3]⟩
theorem h_up {f : Nat → Nat} {i x : Nat} : h_s (va_up f i x) (i + 1) = h_s f i + x * 16777216 ^ i := by
  show h_s (va_up f i x) i + va_up f i x i * _ = _
  rw [va_up_self, h_cg (fun k hk => va_up_ne f x (by omega))]
theorem sm_st {f1 fa fb : Nat → Nat} {i : Nat} {cy sg V : Int} (h : (h_s f1 i : Int) + cy * ((16777216 ^ i : Nat) : Int) = (h_s fa i : Int) + sg * (h_s fb i : Int)) (hV : V = fa i + sg * fb i + cy) : (h_s (va_up f1 i (V % 16777216).toNat) (i + 1) : Int) + (V / 16777216) * ((16777216 ^ (i + 1) : Nat) : Int) = (h_s fa (i + 1) : Int) + sg * (h_s fb (i + 1) : Int) := by
  rw [h_up]
  show _ = ((h_s fa i + fa i * 16777216 ^ i : Nat) : Int) + sg * ((h_s fb i + fb i * 16777216 ^ i : Nat) : Int)
  have e1 : ((V % 16777216).toNat : Int) = V % 16777216 := Int.toNat_of_nonneg (Int.emod_nonneg _ (by decide))
  have e2 : 16777216 * (V / 16777216) + V % 16777216 = V := Int.mul_ediv_add_emod V 16777216
  rw [Nat.pow_succ]
  simp only [Int.natCast_add, Int.natCast_mul]
  rw [e1]
  generalize ((16777216 ^ i : Nat) : Int) = M at *
  have e3 : V / 16777216 * (M * ((16777216 : Nat) : Int)) = (V - V % 16777216) * M := by
    have : V - V % 16777216 = 16777216 * (V / 16777216) := by omega
    rw [this, Int.mul_comm M, ← Int.mul_assoc, Int.mul_comm (V / 16777216)]
    rfl
  rw [e3, Int.sub_mul]
  have e4 : V * M = (fa i : Int) * M + sg * ((fb i : Int) * M) + cy * M := by rw [hV, Int.add_mul, Int.add_mul, Int.mul_assoc]
  rw [Int.mul_add]
  omega
theorem sm_end {h T : Nat} {cy X : Int} {M : Nat} (hcy : -1 ≤ cy ∧ cy ≤ 1) (h1 : h < M) (h2 : T < M) (hs : (h : Int) + cy * ((M : Nat) : Int) = X) (hX : (T : Int) = X) : h = T := by
  rcases (show cy = -1 ∨ cy = 0 ∨ cy = 1 by omega) with q | q | q
  · rw [q] at hs; omega
  · rw [q] at hs; omega
  · rw [q] at hs; omega
set_option maxHeartbeats 4000000 in
set_option maxRecDepth 100000 in
/-- sum(t, a, b, sgn) -/
theorem v5_sum (l : Launch) (K : Cxt) (E0 : Nat → va_E) (z0 : Nat → Wh) (sz : Nat) {mo : Nat → Nat} {th : Int32} {P : Nat} {rg0 : Nat → Int} (hv : md_v K E0 mo th P rg0) (t ra rb : Nat) (sgn : Int32) (ht60 : t < 60) (ha60 : ra < 60) (hb60 : rb < 60) (hsg : sgn = 1 ∨ sgn = -1) (hfit : (rg0 ra + (sgn.toInt * rg0 rb)).natAbs < 16777216 ^ 34) : Met l yX5_sum wsX5_sum ({ frames := 2, cells := 0, slots := 0, locals := 60 }) (va_Pc [.ref (mo 0), .int (nI t), .int (nI ra), .int (nI rb), .int sgn] (bd_P K E0 z0 sz)) (va_Qv (mv_q K mo th P rg0 t (rg0 ra + (sgn.toInt * rg0 rb))) (bd_B K) (bd_A K sz)) 0 0 (bd_A K sz) := by
  refine bd_ofW (cc := cX5_sum) (maxL := 14) (ret := none) (by decide) rfl (Nat.le_of_ble_eq_true rfl) ?_
  intro p e s m below meth c ls C hr hlk hsz hw hl
  have hx := C.1
  have hb := C.2.1
  have hown := C.2.2.2.1
  have hts := C.2.2.2.2.1
  have i5 : ∀ w ∈ wsX50, w ∈ wsX5_sum := by decide +kernel
  have lk13 : Cond.fieldLink RX5 13 "BallDeskModel" "signs" "[I" ∈ wsX5_sum := by decide +kernel
  have lk7 : Cond.fieldLink RX5 7 "BallDeskModel" "limbs" "[I" ∈ wsX5_sum := by decide +kernel
  have lk70 : Cond.constant RX5 70 (16777215) ∈ wsX5_sum := by decide +kernel
  have hl : lv_has ls 14 [(0, .ref (mo 0)), (1, .int (nI t)), (2, .int (nI ra)), (3, .int (nI rb)), (4, .int sgn)] := hl
  obtain ⟨Fo, Go, So, Ro, hm, hrg⟩ := hv
  obtain ⟨hP1, hP2⟩ := md_P hm
  obtain ⟨hFa, hva, hga⟩ := hrg ra ha60
  obtain ⟨hFb, hvb, hgb⟩ := hrg rb hb60
  obtain ⟨hys, hyn⟩ := sm_y (rg0 rb) hsg
  obtain ⟨y, hye⟩ : ∃ y, y = (sgn.toInt * rg0 rb) := ⟨_, rfl⟩
  rw [← hye] at hfit hys hyn ⊢
  rw [← hyn] at hvb
  refine lv_aload_n hx hb dX5_sum_0 rfl (lv_at hl 0 rfl) ?_
  refine md_g C i5 hw hm 4 (by decide) (v := .ref (mo 2)) rfl dX5_sum_1 lk13 ?_
  refine lv_iload_n hx hb dX5_sum_4 rfl (lv_at hl 3 rfl) ?_
  refine md_ld2 C hw hm dX5_sum_5 (by omega) ?_
  refine lv_iload hx hb dX5_sum_6 (lv_at hl 4 rfl) ?_
  refine bd_imul (v := (q_sg y)) hx hb dX5_sum_8 (by rw [hgb]; exact hys) ?_
  refine lv_istore (lv' := [(5, .int (q_sg y)), (0, .ref (mo 0)), (1, .int (nI t)), (2, .int (nI ra)), (3, .int (nI rb)), (4, .int sgn)]) hx hb dX5_sum_9 hl (by decide) rfl (fun ls hl => ?_)
  refine lv_iload hx hb dX5_sum_11 (lv_at hl 0 rfl) ?_
  refine lv_if_eq (tgt := 25) hx hb dX5_sum_13 (by decide) (fun hc13 => ?_) (fun hc13 => ?_)
  · have hy0 : y = 0 := sg_0 hc13
    refine lv_iload hx hb dX5_sum_25 (lv_at hl 0 rfl) ?_
    refine lv_if_ne (tgt := 34) hx hb dX5_sum_27 (by decide) (fun hc27 => ?_) (fun hc27 => ?_)
    · exact absurd (by rw [hy0]; rfl) hc27
    · refine lv_iload_n hx hb dX5_sum_30 rfl (lv_at hl 3 rfl) ?_
      refine lv_goto (tgt := 35) hx hb dX5_sum_31 (by decide) ?_
      refine lv_istore (lv' := [(6, .int (nI ra)), (5, .int (q_sg y)), (0, .ref (mo 0)), (1, .int (nI t)), (2, .int (nI ra)), (3, .int (nI rb)), (4, .int sgn)]) hx hb dX5_sum_35 hl (by decide) rfl (fun ls hl => ?_)
      refine lv_iload hx hb dX5_sum_37 (lv_at hl 1 rfl) ?_
      refine lv_if_ne (tgt := 51) hx hb dX5_sum_39 (by decide) (fun hc39 => ?_) (fun hc39 => ?_)
      · exact absurd (by rw [hy0]; rfl) hc39
      · refine lv_aload_n hx hb dX5_sum_42 rfl (lv_at hl 2 rfl) ?_
        refine md_g C i5 hw hm 4 (by decide) (v := .ref (mo 2)) rfl dX5_sum_43 lk13 ?_
        refine lv_iload_n hx hb dX5_sum_46 rfl (lv_at hl 4 rfl) ?_
        refine md_ld2 C hw hm dX5_sum_47 (by omega) ?_
        refine lv_goto (tgt := 53) hx hb dX5_sum_48 (by decide) ?_
        refine lv_istore (lv' := [(7, .int (Go ra)), (6, .int (nI ra)), (5, .int (q_sg y)), (0, .ref (mo 0)), (1, .int (nI t)), (2, .int (nI ra)), (3, .int (nI rb)), (4, .int sgn)]) hx hb dX5_sum_53 hl (by decide) rfl (fun ls hl => ?_)
        refine lv_aload_n hx hb dX5_sum_55 rfl (lv_at hl 3 rfl) ?_
        refine lv_iload_n hx hb dX5_sum_56 rfl (lv_at hl 4 rfl) ?_
        refine lv_iload hx hb dX5_sum_57 (lv_at hl 1 rfl) ?_
        refine bd_cv (As := [.int (nI t), .int (nI ra)]) (rest := []) C (m5_copy _ _ _ _ _ hm t ra (by omega) (by omega)) (cwV 2 hts gX5_sum_X5_copy rfl rfl rfl (by decide +kernel) ⟨Nat.le_of_ble_eq_true rfl, Nat.le_of_ble_eq_true rfl⟩) hsz hw (md_recv C hw hm) dX5_sum_59 rfl hl.1 rfl (Nat.le_of_ble_eq_true rfl) ⟨Nat.le_refl _, Nat.le_refl _⟩ (fun E z H locs hp hw => ?_)
        obtain ⟨f1, hf1, hm⟩ := hp
        refine lv_aload_n hx hb dX5_sum_62 rfl (lv_at hl 3 rfl) ?_
        refine md_g C i5 hw hm 4 (by decide) (v := .ref (mo 2)) rfl dX5_sum_63 lk13 ?_
        refine lv_iload_n hx hb dX5_sum_66 rfl (lv_at hl 4 rfl) ?_
        refine lv_iload hx hb dX5_sum_67 (lv_at hl 0 rfl) ?_
        refine md_st2u C hw (r := t) (x := (Go ra)) hm dX5_sum_69 (by omega) (fun E H locs hm hw => ?_)
        exact bd_vret C hr hlk hw dX5_sum_70 (mv_end hm hrg (fun k hk => by rw [hf1 k hk]; exact hFa k hk) (by rw [h_cg hf1, hva]; omega) (by rw [hga, hy0, Int.add_zero]))
  · have hy0 : y ≠ 0 := fun q => hc13 (by rw [q]; rfl)
    refine lv_aload_n hx hb dX5_sum_16 rfl (lv_at hl 1 rfl) ?_
    refine md_g C i5 hw hm 4 (by decide) (v := .ref (mo 2)) rfl dX5_sum_17 lk13 ?_
    refine lv_iload_n hx hb dX5_sum_20 rfl (lv_at hl 3 rfl) ?_
    refine md_ld2 C hw hm dX5_sum_21 (by omega) ?_
    refine lv_if_ne (tgt := 71) hx hb dX5_sum_22 (by decide) (fun hc22 => ?_) (fun hc22 => ?_)
    · have hx0 : rg0 ra ≠ 0 := fun q => hc22 (by rw [hga, q]; rfl)
      refine lv_iload hx hb dX5_sum_71 (lv_at hl 0 rfl) ?_
      refine lv_aload_n hx hb dX5_sum_73 rfl (lv_at hl 1 rfl) ?_
      refine md_g C i5 hw hm 4 (by decide) (v := .ref (mo 2)) rfl dX5_sum_74 lk13 ?_
      refine lv_iload_n hx hb dX5_sum_77 rfl (lv_at hl 3 rfl) ?_
      refine md_ld2 C hw hm dX5_sum_78 (by omega) ?_
      refine lv_icmp_ne (tgt := 86) hx hb dX5_sum_79 (by decide) (fun hc79 => ?_) (fun hc79 => ?_)
      · have hun : q_sg y ≠ q_sg (rg0 ra) := fun q => hc79 (by rw [hga]; exact q)
        refine lv_iconst (v := nI 0) hx hb dX5_sum_86 (by decide) ?_
        refine lv_istore (lv' := [(6, .int (nI 0)), (5, .int (q_sg y)), (0, .ref (mo 0)), (1, .int (nI t)), (2, .int (nI ra)), (3, .int (nI rb)), (4, .int sgn)]) hx hb dX5_sum_87 hl (by decide) rfl (fun ls hl => ?_)
        refine lv_iload hx hb dX5_sum_89 (lv_at hl 0 rfl) ?_
        refine bd_zeq (h1 := by decide) (tgt := 98) hx hb dX5_sum_91 (by decide) (fun hc91 => ?_) (fun hc91 => ?_)
        · refine lv_aload_n hx hb dX5_sum_98 rfl (lv_at hl 2 rfl) ?_
          refine lv_iload_n hx hb dX5_sum_99 rfl (lv_at hl 4 rfl) ?_
          refine lv_iload_n hx hb dX5_sum_100 rfl (lv_at hl 5 rfl) ?_
          refine bd_cip (As := [.int (nI ra), .int (nI rb)]) (rest := []) C (m5_sizes _ _ _ _ _ hm ra rb ha60 hb60 hFa hFb) (cwV 2 hts gX5_sum_X5_sizes rfl rfl rfl (by decide +kernel) ⟨Nat.le_of_ble_eq_true rfl, Nat.le_of_ble_eq_true rfl⟩) hsz hw (md_recv C hw hm) dX5_sum_101 rfl hl.1 rfl (Nat.le_of_ble_eq_true rfl) ⟨Nat.le_refl _, Nat.le_refl _⟩ (fun H locs hw => ?_)
          rw [hva, hvb]
          refine lv_istore (lv' := [(7, .int (q_c3 (rg0 ra).natAbs y.natAbs)), (6, .int (nI 0)), (5, .int (q_sg y)), (0, .ref (mo 0)), (1, .int (nI t)), (2, .int (nI ra)), (3, .int (nI rb)), (4, .int sgn)]) hx hb dX5_sum_104 hl (by decide) rfl (fun ls hl => ?_)
          refine lv_iload hx hb dX5_sum_106 (lv_at hl 0 rfl) ?_
          refine lv_if_ge (tgt := 115) hx hb dX5_sum_108 (by decide) (fun hc108 => ?_) (fun hc108 => ?_)
          · have hml : y.natAbs ≤ (rg0 ra).natAbs := q_c3_ge (fun q => absurd hc108 (Int32.not_le.mpr q))
            refine lv_iload_n hx hb dX5_sum_115 rfl (lv_at hl 5 rfl) ?_
            refine lv_istore (lv' := [(8, .int (nI ra)), (7, .int (q_c3 (rg0 ra).natAbs y.natAbs)), (6, .int (nI 0)), (5, .int (q_sg y)), (0, .ref (mo 0)), (1, .int (nI t)), (2, .int (nI ra)), (3, .int (nI rb)), (4, .int sgn)]) hx hb dX5_sum_116 hl (by decide) rfl (fun ls hl => ?_)
            refine lv_iload hx hb dX5_sum_118 (lv_at hl 1 rfl) ?_
            refine lv_if_ge (tgt := 127) hx hb dX5_sum_120 (by decide) (fun hc120 => ?_) (fun hc120 => ?_)
            · refine lv_iload_n hx hb dX5_sum_127 rfl (lv_at hl 7 rfl) ?_
              refine lv_istore (lv' := [(9, .int (nI rb)), (8, .int (nI ra)), (7, .int (q_c3 (rg0 ra).natAbs y.natAbs)), (6, .int (nI 0)), (5, .int (q_sg y)), (0, .ref (mo 0)), (1, .int (nI t)), (2, .int (nI ra)), (3, .int (nI rb)), (4, .int sgn)]) hx hb dX5_sum_128 hl (by decide) rfl (fun ls hl => ?_)
              refine lv_iload hx hb dX5_sum_130 (lv_at hl 2 rfl) ?_
              refine lv_if_ge (tgt := 140) hx hb dX5_sum_132 (by decide) (fun hc132 => ?_) (fun hc132 => ?_)
              · refine lv_aload_n hx hb dX5_sum_140 rfl (lv_at hl 5 rfl) ?_
                refine md_g C i5 hw hm 4 (by decide) (v := .ref (mo 2)) rfl dX5_sum_141 lk13 ?_
                refine lv_iload_n hx hb dX5_sum_144 rfl (lv_at hl 7 rfl) ?_
                refine md_ld2 C hw hm dX5_sum_145 (by omega) ?_
                rw [hga]
                refine lv_istore (lv' := [(10, .int (q_sg (rg0 ra))), (9, .int (nI rb)), (8, .int (nI ra)), (7, .int (q_c3 (rg0 ra).natAbs y.natAbs)), (6, .int (nI 0)), (5, .int (q_sg y)), (0, .ref (mo 0)), (1, .int (nI t)), (2, .int (nI ra)), (3, .int (nI rb)), (4, .int sgn)]) hx hb dX5_sum_146 hl (by decide) rfl (fun ls hl => ?_)
                refine lv_iconst (v := nI 0) hx hb dX5_sum_148 (by decide) ?_
                refine lv_istore (lv' := [(11, .int (nI 0)), (10, .int (q_sg (rg0 ra))), (9, .int (nI rb)), (8, .int (nI ra)), (7, .int (q_c3 (rg0 ra).natAbs y.natAbs)), (6, .int (nI 0)), (5, .int (q_sg y)), (0, .ref (mo 0)), (1, .int (nI t)), (2, .int (nI ra)), (3, .int (nI rb)), (4, .int sgn)]) hx hb dX5_sum_149 hl (by decide) rfl (fun ls hl => ?_)
                refine lv_iconst (v := nI 0) hx hb dX5_sum_151 (by decide) ?_
                refine lv_istore (lv' := [(12, .int (nI 0)), (11, .int (nI 0)), (10, .int (q_sg (rg0 ra))), (9, .int (nI rb)), (8, .int (nI ra)), (7, .int (q_c3 (rg0 ra).natAbs y.natAbs)), (6, .int (nI 0)), (5, .int (q_sg y)), (0, .ref (mo 0)), (1, .int (nI t)), (2, .int (nI ra)), (3, .int (nI rb)), (4, .int sgn)]) hx hb dX5_sum_152 hl (by decide) rfl (fun ls hl => ?_)
                suffices hloop : ∀ (d9 i : Nat) (f1 : Nat → Nat) (cy : Int) (E : Nat → va_E) (ls : Array Slot) (H : Heap) (locs : List Loc), i + d9 = 34 → md_at K E mo th P (va_up Fo t f1) Go So Ro → (∀ j, j < i → f1 j < 16777216) → (∀ j, i ≤ j → f1 j = Fo t j) → (-1 ≤ cy ∧ cy ≤ 1) → ((h_s f1 i : Int) + cy * ((16777216 ^ i : Nat) : Int) = (h_s (Fo ra) i : Int) + (-1) * (h_s (Fo rb) i : Int)) → lv_has ls 14 [(12, .int (nI i)), (11, .int (iZ cy)), (0, .ref (mo 0)), (1, .int (nI t)), (6, .int (nI 0)), (8, .int (nI ra)), (9, .int (nI rb)), (10, .int (q_sg (rg0 ra)))] → bd_W K E z0 (bd_A K sz) s.heap H locs → W p l e (headSpec wsX5_sum ({ frames := 2, cells := 0, slots := 0, locals := 60 })).room s m [.ref (mo 0), .int (nI t), .int (nI ra), .int (nI rb), .int sgn].toArray below meth c H locs 0 0 (MQ below (va_Qv (mv_q K mo th P rg0 t (rg0 ra + y)) (bd_B K) (bd_A K sz)) [.ref (mo 0), .int (nI t), .int (nI ra), .int (nI rb), .int sgn].toArray s 0 0 (bd_A K sz)) (F0 m 154 ls []) from hloop 34 0 (Fo t) 0 E0 ls _ _ (by omega) (by rw [va_upi]; exact hm) (fun j hj => absurd hj (by omega)) (fun _ _ => rfl) (by omega) (by simp [h_s]) (lv_sub hl [0, 1, 8, 9, 6, 4, 3, 2] rfl) hw
                clear hw hl ls hm 
                intro d9
                induction d9 using Nat.strongRecOn with
                | ind d9 ih =>
                  intro i f1 cy E ls H locs hjd hm hfb hg hcy hsum hl hw
                  refine lv_iload hx hb dX5_sum_154 (lv_at hl 0 rfl) ?_
                  refine lv_bipush (v := nI 34) hx hb dX5_sum_156 (by decide) ?_
                  refine bd_ige (h1 := by omega) (h2 := by omega) (tgt := 241) hx hb dX5_sum_158 (by decide) (fun hc158 => ?_) (fun hc158 => ?_)
                  · have hi34 : i = 34 := by omega
                    subst hi34
                    obtain ⟨hab, hsgn⟩ := sm_ge hx0 hy0 hun hml
                    have hs1 : h_s f1 34 = (rg0 ra + y).natAbs := by
                      have hlt := h_lt hfb
                      rw [hva, hvb] at hsum
                      exact sm_end hcy hlt hfit hsum (by omega)
                    refine lv_aload_n hx hb dX5_sum_241 rfl (lv_at hl 2 rfl) ?_
                    refine lv_iload_n hx hb dX5_sum_242 rfl (lv_at hl 3 rfl) ?_
                    refine lv_iload hx hb dX5_sum_243 (lv_at hl 7 rfl) ?_
                    refine bd_cv (As := [.int (nI t), .int (q_sg (rg0 ra))]) (rest := []) C (m5_settle _ _ _ _ _ hm t (q_sg (rg0 ra)) (by omega) (by rw [va_up_self]; exact hfb)) (cwV 2 hts gX5_sum_X5_settle rfl rfl rfl (by decide +kernel) ⟨Nat.le_of_ble_eq_true rfl, Nat.le_of_ble_eq_true rfl⟩) hsz hw (md_recv C hw hm) dX5_sum_245 rfl hl.1 rfl (Nat.le_of_ble_eq_true rfl) ⟨Nat.le_refl _, Nat.le_refl _⟩ (fun E z H locs hp hw => ?_)
                    have hm := hp
                    rw [va_up_self] at hm
                    exact bd_vret C hr hlk hw dX5_sum_248 (mv_end hm hrg hfb hs1 (sg_if hs1 hsgn))
                  · have hx1 := hFa i hc158
                    have hx2 := hFb i hc158
                    refine lv_iload hx hb dX5_sum_161 (lv_at hl 4 rfl) ?_
                    refine bd_zeq (h1 := by decide) (tgt := 189) hx hb dX5_sum_163 (by decide) (fun hc163 => ?_) (fun hc163 => ?_)
                    · refine lv_aload_n hx hb dX5_sum_189 rfl (lv_at hl 2 rfl) ?_
                      refine lv_iload hx hb dX5_sum_190 (lv_at hl 5 rfl) ?_
                      refine lv_iload hx hb dX5_sum_192 (lv_at hl 0 rfl) ?_
                      refine bd_cip (As := [.int (nI ra), .int (nI i)]) (rest := []) C (m5_at _ _ _ _ _ hm ra i (by omega) (by omega)) (cwV 2 hts gX5_sum_X5_at rfl rfl rfl (by decide +kernel) ⟨Nat.le_of_ble_eq_true rfl, Nat.le_of_ble_eq_true rfl⟩) hsz hw (md_recv C hw hm) dX5_sum_194 rfl hl.1 rfl (Nat.le_of_ble_eq_true rfl) ⟨Nat.le_refl _, Nat.le_refl _⟩ (fun H locs hw => ?_)
                      rw [rd_k (F := Fo) (r := t) (a := ra) (k := i) (fun q => by rw [q]; exact hg i (Nat.le_refl _))]
                      refine lv_aload_n hx hb dX5_sum_197 rfl (lv_at hl 2 rfl) ?_
                      refine lv_iload hx hb dX5_sum_198 (lv_at hl 6 rfl) ?_
                      refine lv_iload hx hb dX5_sum_200 (lv_at hl 0 rfl) ?_
                      refine bd_cip (As := [.int (nI rb), .int (nI i)]) (rest := [.int (nI (Fo ra i))]) C (m5_at _ _ _ _ _ hm rb i (by omega) (by omega)) (cwV 2 hts gX5_sum_X5_at rfl rfl rfl (by decide +kernel) ⟨Nat.le_of_ble_eq_true rfl, Nat.le_of_ble_eq_true rfl⟩) hsz hw (md_recv C hw hm) dX5_sum_202 rfl hl.1 rfl (Nat.le_of_ble_eq_true rfl) ⟨Nat.le_refl _, Nat.le_refl _⟩ (fun H locs hw => ?_)
                      rw [rd_k (F := Fo) (r := t) (a := rb) (k := i) (fun q => by rw [q]; exact hg i (Nat.le_refl _))]
                      refine bd_isub (v := (iZ ((Fo ra i : Int) - (Fo rb i : Int)))) hx hb dX5_sum_205 (iZ_sub _ _) ?_
                      refine lv_iload hx hb dX5_sum_206 (lv_at hl 1 rfl) ?_
                      refine bd_iadd (v := (iZ ((Fo ra i : Int) - (Fo rb i : Int) + cy))) hx hb dX5_sum_208 (iZ_add _ _) ?_
                      refine lv_istore (lv' := [(13, .int (iZ ((Fo ra i : Int) - (Fo rb i : Int) + cy))), (12, .int (nI i)), (11, .int (iZ cy)), (0, .ref (mo 0)), (1, .int (nI t)), (6, .int (nI 0)), (8, .int (nI ra)), (9, .int (nI rb)), (10, .int (q_sg (rg0 ra)))]) hx hb dX5_sum_209 hl (by decide) rfl (fun ls hl => ?_)
                      refine lv_aload_n hx hb dX5_sum_211 rfl (lv_at hl 3 rfl) ?_
                      refine md_g C i5 hw hm 3 (by decide) (v := .ref (mo 1)) rfl dX5_sum_212 lk7 ?_
                      refine lv_bipush (v := nI 34) hx hb dX5_sum_215 (by decide) ?_
                      refine lv_iload_n hx hb dX5_sum_217 rfl (lv_at hl 4 rfl) ?_
                      refine bd_imul (v := nI (34 * t)) hx hb dX5_sum_218 (nI_mul _ _) ?_
                      refine lv_iload hx hb dX5_sum_219 (lv_at hl 1 rfl) ?_
                      refine bd_iadd (v := nI (34 * t + i)) hx hb dX5_sum_221 (nI_add _ _) ?_
                      refine lv_iload hx hb dX5_sum_222 (lv_at hl 0 rfl) ?_
                      refine lv_ldc (v := nI 16777215) hx hb hown (hts _ lk70) dX5_sum_224 ?_
                      refine bd_iand (v := (nI (((Fo ra i : Int) - (Fo rb i : Int) + cy) % 16777216).toNat)) hx hb dX5_sum_226 (i_msZ _) ?_
                      refine md_st1u C hw (r := t) (k := i) (x := ((((Fo ra i : Int) - (Fo rb i : Int) + cy) % 16777216).toNat)) hm dX5_sum_227 (by omega) (by omega) (fun E H locs hm hw => ?_)
                      refine lv_iload hx hb dX5_sum_228 (lv_at hl 0 rfl) ?_
                      refine lv_bipush (v := nI 24) hx hb dX5_sum_230 (by decide) ?_
                      refine bd_ishr (v := (iZ (((Fo ra i : Int) - (Fo rb i : Int) + cy) / 16777216))) hx hb dX5_sum_232 (i_sh24 (by omega) (by omega)) ?_
                      refine lv_istore (lv' := [(11, .int (iZ (((Fo ra i : Int) - (Fo rb i : Int) + cy) / 16777216))), (13, .int (iZ ((Fo ra i : Int) - (Fo rb i : Int) + cy))), (12, .int (nI i)), (0, .ref (mo 0)), (1, .int (nI t)), (6, .int (nI 0)), (8, .int (nI ra)), (9, .int (nI rb)), (10, .int (q_sg (rg0 ra)))]) hx hb dX5_sum_233 hl (by decide) rfl (fun ls hl => ?_)
                      refine lv_iinc (v := (nI (i + 1))) (lv' := [(12, .int (nI (i + 1))), (11, .int (iZ (((Fo ra i : Int) - (Fo rb i : Int) + cy) / 16777216))), (13, .int (iZ ((Fo ra i : Int) - (Fo rb i : Int) + cy))), (0, .ref (mo 0)), (1, .int (nI t)), (6, .int (nI 0)), (8, .int (nI ra)), (9, .int (nI rb)), (10, .int (q_sg (rg0 ra)))]) hx hb dX5_sum_235 hl (k := 2) rfl (nI_1 _) (by decide) rfl (fun ls hl => ?_)
                      refine lv_goto (tgt := 154) hx hb dX5_sum_238 (by decide) ?_
                      exact ih (d9 - 1) (by omega) (i + 1) _ (((Fo ra i : Int) - (Fo rb i : Int) + cy) / 16777216) E ls H locs (by omega) hm (up_s (T := fun _ y => y < 16777216) hfb (by omega)) (up_g hg) (by omega) (sm_st (V := ((Fo ra i : Int) - (Fo rb i : Int) + cy)) hsum (by omega)) (lv_sub hl [0, 1, 3, 4, 5, 6, 7, 8] rfl) hw
                    · exact absurd hc163 (by decide)
              · exact absurd hc108 hc132
            · exact absurd hc108 hc120
          · have hml : (rg0 ra).natAbs < y.natAbs := q_c3_l (Int32.not_le.mp hc108)
            refine lv_iload_n hx hb dX5_sum_111 rfl (lv_at hl 6 rfl) ?_
            refine lv_goto (tgt := 116) hx hb dX5_sum_112 (by decide) ?_
            refine lv_istore (lv' := [(8, .int (nI rb)), (7, .int (q_c3 (rg0 ra).natAbs y.natAbs)), (6, .int (nI 0)), (5, .int (q_sg y)), (0, .ref (mo 0)), (1, .int (nI t)), (2, .int (nI ra)), (3, .int (nI rb)), (4, .int sgn)]) hx hb dX5_sum_116 hl (by decide) rfl (fun ls hl => ?_)
            refine lv_iload hx hb dX5_sum_118 (lv_at hl 1 rfl) ?_
            refine lv_if_ge (tgt := 127) hx hb dX5_sum_120 (by decide) (fun hc120 => ?_) (fun hc120 => ?_)
            · exact absurd hc120 hc108
            · refine lv_iload_n hx hb dX5_sum_123 rfl (lv_at hl 6 rfl) ?_
              refine lv_goto (tgt := 128) hx hb dX5_sum_124 (by decide) ?_
              refine lv_istore (lv' := [(9, .int (nI ra)), (8, .int (nI rb)), (7, .int (q_c3 (rg0 ra).natAbs y.natAbs)), (6, .int (nI 0)), (5, .int (q_sg y)), (0, .ref (mo 0)), (1, .int (nI t)), (2, .int (nI ra)), (3, .int (nI rb)), (4, .int sgn)]) hx hb dX5_sum_128 hl (by decide) rfl (fun ls hl => ?_)
              refine lv_iload hx hb dX5_sum_130 (lv_at hl 2 rfl) ?_
              refine lv_if_ge (tgt := 140) hx hb dX5_sum_132 (by decide) (fun hc132 => ?_) (fun hc132 => ?_)
              · exact absurd hc132 hc108
              · refine lv_iload hx hb dX5_sum_135 (lv_at hl 4 rfl) ?_
                refine lv_goto (tgt := 146) hx hb dX5_sum_137 (by decide) ?_
                refine lv_istore (lv' := [(10, .int (q_sg y)), (9, .int (nI ra)), (8, .int (nI rb)), (7, .int (q_c3 (rg0 ra).natAbs y.natAbs)), (6, .int (nI 0)), (5, .int (q_sg y)), (0, .ref (mo 0)), (1, .int (nI t)), (2, .int (nI ra)), (3, .int (nI rb)), (4, .int sgn)]) hx hb dX5_sum_146 hl (by decide) rfl (fun ls hl => ?_)
                refine lv_iconst (v := nI 0) hx hb dX5_sum_148 (by decide) ?_
                refine lv_istore (lv' := [(11, .int (nI 0)), (10, .int (q_sg y)), (9, .int (nI ra)), (8, .int (nI rb)), (7, .int (q_c3 (rg0 ra).natAbs y.natAbs)), (6, .int (nI 0)), (5, .int (q_sg y)), (0, .ref (mo 0)), (1, .int (nI t)), (2, .int (nI ra)), (3, .int (nI rb)), (4, .int sgn)]) hx hb dX5_sum_149 hl (by decide) rfl (fun ls hl => ?_)
                refine lv_iconst (v := nI 0) hx hb dX5_sum_151 (by decide) ?_
                refine lv_istore (lv' := [(12, .int (nI 0)), (11, .int (nI 0)), (10, .int (q_sg y)), (9, .int (nI ra)), (8, .int (nI rb)), (7, .int (q_c3 (rg0 ra).natAbs y.natAbs)), (6, .int (nI 0)), (5, .int (q_sg y)), (0, .ref (mo 0)), (1, .int (nI t)), (2, .int (nI ra)), (3, .int (nI rb)), (4, .int sgn)]) hx hb dX5_sum_152 hl (by decide) rfl (fun ls hl => ?_)
                suffices hloop : ∀ (d9 i : Nat) (f1 : Nat → Nat) (cy : Int) (E : Nat → va_E) (ls : Array Slot) (H : Heap) (locs : List Loc), i + d9 = 34 → md_at K E mo th P (va_up Fo t f1) Go So Ro → (∀ j, j < i → f1 j < 16777216) → (∀ j, i ≤ j → f1 j = Fo t j) → (-1 ≤ cy ∧ cy ≤ 1) → ((h_s f1 i : Int) + cy * ((16777216 ^ i : Nat) : Int) = (h_s (Fo rb) i : Int) + (-1) * (h_s (Fo ra) i : Int)) → lv_has ls 14 [(12, .int (nI i)), (11, .int (iZ cy)), (0, .ref (mo 0)), (1, .int (nI t)), (6, .int (nI 0)), (8, .int (nI rb)), (9, .int (nI ra)), (10, .int (q_sg y))] → bd_W K E z0 (bd_A K sz) s.heap H locs → W p l e (headSpec wsX5_sum ({ frames := 2, cells := 0, slots := 0, locals := 60 })).room s m [.ref (mo 0), .int (nI t), .int (nI ra), .int (nI rb), .int sgn].toArray below meth c H locs 0 0 (MQ below (va_Qv (mv_q K mo th P rg0 t (rg0 ra + y)) (bd_B K) (bd_A K sz)) [.ref (mo 0), .int (nI t), .int (nI ra), .int (nI rb), .int sgn].toArray s 0 0 (bd_A K sz)) (F0 m 154 ls []) from hloop 34 0 (Fo t) 0 E0 ls _ _ (by omega) (by rw [va_upi]; exact hm) (fun j hj => absurd hj (by omega)) (fun _ _ => rfl) (by omega) (by simp [h_s]) (lv_sub hl [0, 1, 8, 9, 6, 4, 3, 2] rfl) hw
                clear hw hl ls hm 
                intro d9
                induction d9 using Nat.strongRecOn with
                | ind d9 ih =>
                  intro i f1 cy E ls H locs hjd hm hfb hg hcy hsum hl hw
                  refine lv_iload hx hb dX5_sum_154 (lv_at hl 0 rfl) ?_
                  refine lv_bipush (v := nI 34) hx hb dX5_sum_156 (by decide) ?_
                  refine bd_ige (h1 := by omega) (h2 := by omega) (tgt := 241) hx hb dX5_sum_158 (by decide) (fun hc158 => ?_) (fun hc158 => ?_)
                  · have hi34 : i = 34 := by omega
                    subst hi34
                    obtain ⟨hab, hsgn⟩ := sm_lt hx0 hy0 hun hml
                    have hs1 : h_s f1 34 = (rg0 ra + y).natAbs := by
                      have hlt := h_lt hfb
                      rw [hvb, hva] at hsum
                      exact sm_end hcy hlt hfit hsum (by omega)
                    refine lv_aload_n hx hb dX5_sum_241 rfl (lv_at hl 2 rfl) ?_
                    refine lv_iload_n hx hb dX5_sum_242 rfl (lv_at hl 3 rfl) ?_
                    refine lv_iload hx hb dX5_sum_243 (lv_at hl 7 rfl) ?_
                    refine bd_cv (As := [.int (nI t), .int (q_sg y)]) (rest := []) C (m5_settle _ _ _ _ _ hm t (q_sg y) (by omega) (by rw [va_up_self]; exact hfb)) (cwV 2 hts gX5_sum_X5_settle rfl rfl rfl (by decide +kernel) ⟨Nat.le_of_ble_eq_true rfl, Nat.le_of_ble_eq_true rfl⟩) hsz hw (md_recv C hw hm) dX5_sum_245 rfl hl.1 rfl (Nat.le_of_ble_eq_true rfl) ⟨Nat.le_refl _, Nat.le_refl _⟩ (fun E z H locs hp hw => ?_)
                    have hm := hp
                    rw [va_up_self] at hm
                    exact bd_vret C hr hlk hw dX5_sum_248 (mv_end hm hrg hfb hs1 (sg_if hs1 hsgn))
                  · have hx1 := hFb i hc158
                    have hx2 := hFa i hc158
                    refine lv_iload hx hb dX5_sum_161 (lv_at hl 4 rfl) ?_
                    refine bd_zeq (h1 := by decide) (tgt := 189) hx hb dX5_sum_163 (by decide) (fun hc163 => ?_) (fun hc163 => ?_)
                    · refine lv_aload_n hx hb dX5_sum_189 rfl (lv_at hl 2 rfl) ?_
                      refine lv_iload hx hb dX5_sum_190 (lv_at hl 5 rfl) ?_
                      refine lv_iload hx hb dX5_sum_192 (lv_at hl 0 rfl) ?_
                      refine bd_cip (As := [.int (nI rb), .int (nI i)]) (rest := []) C (m5_at _ _ _ _ _ hm rb i (by omega) (by omega)) (cwV 2 hts gX5_sum_X5_at rfl rfl rfl (by decide +kernel) ⟨Nat.le_of_ble_eq_true rfl, Nat.le_of_ble_eq_true rfl⟩) hsz hw (md_recv C hw hm) dX5_sum_194 rfl hl.1 rfl (Nat.le_of_ble_eq_true rfl) ⟨Nat.le_refl _, Nat.le_refl _⟩ (fun H locs hw => ?_)
                      rw [rd_k (F := Fo) (r := t) (a := rb) (k := i) (fun q => by rw [q]; exact hg i (Nat.le_refl _))]
                      refine lv_aload_n hx hb dX5_sum_197 rfl (lv_at hl 2 rfl) ?_
                      refine lv_iload hx hb dX5_sum_198 (lv_at hl 6 rfl) ?_
                      refine lv_iload hx hb dX5_sum_200 (lv_at hl 0 rfl) ?_
                      refine bd_cip (As := [.int (nI ra), .int (nI i)]) (rest := [.int (nI (Fo rb i))]) C (m5_at _ _ _ _ _ hm ra i (by omega) (by omega)) (cwV 2 hts gX5_sum_X5_at rfl rfl rfl (by decide +kernel) ⟨Nat.le_of_ble_eq_true rfl, Nat.le_of_ble_eq_true rfl⟩) hsz hw (md_recv C hw hm) dX5_sum_202 rfl hl.1 rfl (Nat.le_of_ble_eq_true rfl) ⟨Nat.le_refl _, Nat.le_refl _⟩ (fun H locs hw => ?_)
                      rw [rd_k (F := Fo) (r := t) (a := ra) (k := i) (fun q => by rw [q]; exact hg i (Nat.le_refl _))]
                      refine bd_isub (v := (iZ ((Fo rb i : Int) - (Fo ra i : Int)))) hx hb dX5_sum_205 (iZ_sub _ _) ?_
                      refine lv_iload hx hb dX5_sum_206 (lv_at hl 1 rfl) ?_
                      refine bd_iadd (v := (iZ ((Fo rb i : Int) - (Fo ra i : Int) + cy))) hx hb dX5_sum_208 (iZ_add _ _) ?_
                      refine lv_istore (lv' := [(13, .int (iZ ((Fo rb i : Int) - (Fo ra i : Int) + cy))), (12, .int (nI i)), (11, .int (iZ cy)), (0, .ref (mo 0)), (1, .int (nI t)), (6, .int (nI 0)), (8, .int (nI rb)), (9, .int (nI ra)), (10, .int (q_sg y))]) hx hb dX5_sum_209 hl (by decide) rfl (fun ls hl => ?_)
                      refine lv_aload_n hx hb dX5_sum_211 rfl (lv_at hl 3 rfl) ?_
                      refine md_g C i5 hw hm 3 (by decide) (v := .ref (mo 1)) rfl dX5_sum_212 lk7 ?_
                      refine lv_bipush (v := nI 34) hx hb dX5_sum_215 (by decide) ?_
                      refine lv_iload_n hx hb dX5_sum_217 rfl (lv_at hl 4 rfl) ?_
                      refine bd_imul (v := nI (34 * t)) hx hb dX5_sum_218 (nI_mul _ _) ?_
                      refine lv_iload hx hb dX5_sum_219 (lv_at hl 1 rfl) ?_
                      refine bd_iadd (v := nI (34 * t + i)) hx hb dX5_sum_221 (nI_add _ _) ?_
                      refine lv_iload hx hb dX5_sum_222 (lv_at hl 0 rfl) ?_
                      refine lv_ldc (v := nI 16777215) hx hb hown (hts _ lk70) dX5_sum_224 ?_
                      refine bd_iand (v := (nI (((Fo rb i : Int) - (Fo ra i : Int) + cy) % 16777216).toNat)) hx hb dX5_sum_226 (i_msZ _) ?_
                      refine md_st1u C hw (r := t) (k := i) (x := ((((Fo rb i : Int) - (Fo ra i : Int) + cy) % 16777216).toNat)) hm dX5_sum_227 (by omega) (by omega) (fun E H locs hm hw => ?_)
                      refine lv_iload hx hb dX5_sum_228 (lv_at hl 0 rfl) ?_
                      refine lv_bipush (v := nI 24) hx hb dX5_sum_230 (by decide) ?_
                      refine bd_ishr (v := (iZ (((Fo rb i : Int) - (Fo ra i : Int) + cy) / 16777216))) hx hb dX5_sum_232 (i_sh24 (by omega) (by omega)) ?_
                      refine lv_istore (lv' := [(11, .int (iZ (((Fo rb i : Int) - (Fo ra i : Int) + cy) / 16777216))), (13, .int (iZ ((Fo rb i : Int) - (Fo ra i : Int) + cy))), (12, .int (nI i)), (0, .ref (mo 0)), (1, .int (nI t)), (6, .int (nI 0)), (8, .int (nI rb)), (9, .int (nI ra)), (10, .int (q_sg y))]) hx hb dX5_sum_233 hl (by decide) rfl (fun ls hl => ?_)
                      refine lv_iinc (v := (nI (i + 1))) (lv' := [(12, .int (nI (i + 1))), (11, .int (iZ (((Fo rb i : Int) - (Fo ra i : Int) + cy) / 16777216))), (13, .int (iZ ((Fo rb i : Int) - (Fo ra i : Int) + cy))), (0, .ref (mo 0)), (1, .int (nI t)), (6, .int (nI 0)), (8, .int (nI rb)), (9, .int (nI ra)), (10, .int (q_sg y))]) hx hb dX5_sum_235 hl (k := 2) rfl (nI_1 _) (by decide) rfl (fun ls hl => ?_)
                      refine lv_goto (tgt := 154) hx hb dX5_sum_238 (by decide) ?_
                      exact ih (d9 - 1) (by omega) (i + 1) _ (((Fo rb i : Int) - (Fo ra i : Int) + cy) / 16777216) E ls H locs (by omega) hm (up_s (T := fun _ y => y < 16777216) hfb (by omega)) (up_g hg) (by omega) (sm_st (V := ((Fo rb i : Int) - (Fo ra i : Int) + cy)) hsum (by omega)) (lv_sub hl [0, 1, 3, 4, 5, 6, 7, 8] rfl) hw
                    · exact absurd hc163 (by decide)
        · exact absurd hc91 (by decide)
      · have hun : q_sg y = q_sg (rg0 ra) := by have := hc79; rw [hga] at this; exact this
        refine lv_iconst (v := nI 1) hx hb dX5_sum_82 (by decide) ?_
        refine lv_goto (tgt := 87) hx hb dX5_sum_83 (by decide) ?_
        refine lv_istore (lv' := [(6, .int (nI 1)), (5, .int (q_sg y)), (0, .ref (mo 0)), (1, .int (nI t)), (2, .int (nI ra)), (3, .int (nI rb)), (4, .int sgn)]) hx hb dX5_sum_87 hl (by decide) rfl (fun ls hl => ?_)
        refine lv_iload hx hb dX5_sum_89 (lv_at hl 0 rfl) ?_
        refine bd_zeq (h1 := by decide) (tgt := 98) hx hb dX5_sum_91 (by decide) (fun hc91 => ?_) (fun hc91 => ?_)
        · exact absurd hc91 (by decide)
        · refine lv_iconst (v := nI 0) hx hb dX5_sum_94 (by decide) ?_
          refine lv_goto (tgt := 104) hx hb dX5_sum_95 (by decide) ?_
          refine lv_istore (lv' := [(7, .int (nI 0)), (6, .int (nI 1)), (5, .int (q_sg y)), (0, .ref (mo 0)), (1, .int (nI t)), (2, .int (nI ra)), (3, .int (nI rb)), (4, .int sgn)]) hx hb dX5_sum_104 hl (by decide) rfl (fun ls hl => ?_)
          refine lv_iload hx hb dX5_sum_106 (lv_at hl 0 rfl) ?_
          refine bd_zge (h1 := (by decide)) (tgt := 115) hx hb dX5_sum_108 (by decide) ?_
          refine lv_iload_n hx hb dX5_sum_115 rfl (lv_at hl 5 rfl) ?_
          refine lv_istore (lv' := [(8, .int (nI ra)), (7, .int (nI 0)), (6, .int (nI 1)), (5, .int (q_sg y)), (0, .ref (mo 0)), (1, .int (nI t)), (2, .int (nI ra)), (3, .int (nI rb)), (4, .int sgn)]) hx hb dX5_sum_116 hl (by decide) rfl (fun ls hl => ?_)
          refine lv_iload hx hb dX5_sum_118 (lv_at hl 1 rfl) ?_
          refine bd_zge (h1 := (by decide)) (tgt := 127) hx hb dX5_sum_120 (by decide) ?_
          refine lv_iload_n hx hb dX5_sum_127 rfl (lv_at hl 7 rfl) ?_
          refine lv_istore (lv' := [(9, .int (nI rb)), (8, .int (nI ra)), (7, .int (nI 0)), (6, .int (nI 1)), (5, .int (q_sg y)), (0, .ref (mo 0)), (1, .int (nI t)), (2, .int (nI ra)), (3, .int (nI rb)), (4, .int sgn)]) hx hb dX5_sum_128 hl (by decide) rfl (fun ls hl => ?_)
          refine lv_iload hx hb dX5_sum_130 (lv_at hl 2 rfl) ?_
          refine bd_zge (h1 := (by decide)) (tgt := 140) hx hb dX5_sum_132 (by decide) ?_
          refine lv_aload_n hx hb dX5_sum_140 rfl (lv_at hl 5 rfl) ?_
          refine md_g C i5 hw hm 4 (by decide) (v := .ref (mo 2)) rfl dX5_sum_141 lk13 ?_
          refine lv_iload_n hx hb dX5_sum_144 rfl (lv_at hl 7 rfl) ?_
          refine md_ld2 C hw hm dX5_sum_145 (by omega) ?_
          rw [hga]
          refine lv_istore (lv' := [(10, .int (q_sg (rg0 ra))), (9, .int (nI rb)), (8, .int (nI ra)), (7, .int (nI 0)), (6, .int (nI 1)), (5, .int (q_sg y)), (0, .ref (mo 0)), (1, .int (nI t)), (2, .int (nI ra)), (3, .int (nI rb)), (4, .int sgn)]) hx hb dX5_sum_146 hl (by decide) rfl (fun ls hl => ?_)
          refine lv_iconst (v := nI 0) hx hb dX5_sum_148 (by decide) ?_
          refine lv_istore (lv' := [(11, .int (nI 0)), (10, .int (q_sg (rg0 ra))), (9, .int (nI rb)), (8, .int (nI ra)), (7, .int (nI 0)), (6, .int (nI 1)), (5, .int (q_sg y)), (0, .ref (mo 0)), (1, .int (nI t)), (2, .int (nI ra)), (3, .int (nI rb)), (4, .int sgn)]) hx hb dX5_sum_149 hl (by decide) rfl (fun ls hl => ?_)
          refine lv_iconst (v := nI 0) hx hb dX5_sum_151 (by decide) ?_
          refine lv_istore (lv' := [(12, .int (nI 0)), (11, .int (nI 0)), (10, .int (q_sg (rg0 ra))), (9, .int (nI rb)), (8, .int (nI ra)), (7, .int (nI 0)), (6, .int (nI 1)), (5, .int (q_sg y)), (0, .ref (mo 0)), (1, .int (nI t)), (2, .int (nI ra)), (3, .int (nI rb)), (4, .int sgn)]) hx hb dX5_sum_152 hl (by decide) rfl (fun ls hl => ?_)
          suffices hloop : ∀ (d9 i : Nat) (f1 : Nat → Nat) (cy : Int) (E : Nat → va_E) (ls : Array Slot) (H : Heap) (locs : List Loc), i + d9 = 34 → md_at K E mo th P (va_up Fo t f1) Go So Ro → (∀ j, j < i → f1 j < 16777216) → (∀ j, i ≤ j → f1 j = Fo t j) → (-1 ≤ cy ∧ cy ≤ 1) → ((h_s f1 i : Int) + cy * ((16777216 ^ i : Nat) : Int) = (h_s (Fo ra) i : Int) + 1 * (h_s (Fo rb) i : Int)) → lv_has ls 14 [(12, .int (nI i)), (11, .int (iZ cy)), (0, .ref (mo 0)), (1, .int (nI t)), (6, .int (nI 1)), (8, .int (nI ra)), (9, .int (nI rb)), (10, .int (q_sg (rg0 ra)))] → bd_W K E z0 (bd_A K sz) s.heap H locs → W p l e (headSpec wsX5_sum ({ frames := 2, cells := 0, slots := 0, locals := 60 })).room s m [.ref (mo 0), .int (nI t), .int (nI ra), .int (nI rb), .int sgn].toArray below meth c H locs 0 0 (MQ below (va_Qv (mv_q K mo th P rg0 t (rg0 ra + y)) (bd_B K) (bd_A K sz)) [.ref (mo 0), .int (nI t), .int (nI ra), .int (nI rb), .int sgn].toArray s 0 0 (bd_A K sz)) (F0 m 154 ls []) from hloop 34 0 (Fo t) 0 E0 ls _ _ (by omega) (by rw [va_upi]; exact hm) (fun j hj => absurd hj (by omega)) (fun _ _ => rfl) (by omega) (by simp [h_s]) (lv_sub hl [0, 1, 8, 9, 6, 4, 3, 2] rfl) hw
          clear hw hl ls hm 
          intro d9
          induction d9 using Nat.strongRecOn with
          | ind d9 ih =>
            intro i f1 cy E ls H locs hjd hm hfb hg hcy hsum hl hw
            refine lv_iload hx hb dX5_sum_154 (lv_at hl 0 rfl) ?_
            refine lv_bipush (v := nI 34) hx hb dX5_sum_156 (by decide) ?_
            refine bd_ige (h1 := by omega) (h2 := by omega) (tgt := 241) hx hb dX5_sum_158 (by decide) (fun hc158 => ?_) (fun hc158 => ?_)
            · have hi34 : i = 34 := by omega
              subst hi34
              obtain ⟨hab, hsgn⟩ := sm_al hun
              have hs1 : h_s f1 34 = (rg0 ra + y).natAbs := by
                have hlt := h_lt hfb
                rw [hva, hvb] at hsum
                exact sm_end hcy hlt hfit hsum (by omega)
              refine lv_aload_n hx hb dX5_sum_241 rfl (lv_at hl 2 rfl) ?_
              refine lv_iload_n hx hb dX5_sum_242 rfl (lv_at hl 3 rfl) ?_
              refine lv_iload hx hb dX5_sum_243 (lv_at hl 7 rfl) ?_
              refine bd_cv (As := [.int (nI t), .int (q_sg (rg0 ra))]) (rest := []) C (m5_settle _ _ _ _ _ hm t (q_sg (rg0 ra)) (by omega) (by rw [va_up_self]; exact hfb)) (cwV 2 hts gX5_sum_X5_settle rfl rfl rfl (by decide +kernel) ⟨Nat.le_of_ble_eq_true rfl, Nat.le_of_ble_eq_true rfl⟩) hsz hw (md_recv C hw hm) dX5_sum_245 rfl hl.1 rfl (Nat.le_of_ble_eq_true rfl) ⟨Nat.le_refl _, Nat.le_refl _⟩ (fun E z H locs hp hw => ?_)
              have hm := hp
              rw [va_up_self] at hm
              exact bd_vret C hr hlk hw dX5_sum_248 (mv_end hm hrg hfb hs1 (sg_if hs1 hsgn))
            · have hx1 := hFa i hc158
              have hx2 := hFb i hc158
              refine lv_iload hx hb dX5_sum_161 (lv_at hl 4 rfl) ?_
              refine bd_zeq (h1 := by decide) (tgt := 189) hx hb dX5_sum_163 (by decide) (fun hc163 => ?_) (fun hc163 => ?_)
              · exact absurd hc163 (by decide)
              · refine lv_aload_n hx hb dX5_sum_166 rfl (lv_at hl 2 rfl) ?_
                refine lv_iload hx hb dX5_sum_167 (lv_at hl 5 rfl) ?_
                refine lv_iload hx hb dX5_sum_169 (lv_at hl 0 rfl) ?_
                refine bd_cip (As := [.int (nI ra), .int (nI i)]) (rest := []) C (m5_at _ _ _ _ _ hm ra i (by omega) (by omega)) (cwV 2 hts gX5_sum_X5_at rfl rfl rfl (by decide +kernel) ⟨Nat.le_of_ble_eq_true rfl, Nat.le_of_ble_eq_true rfl⟩) hsz hw (md_recv C hw hm) dX5_sum_171 rfl hl.1 rfl (Nat.le_of_ble_eq_true rfl) ⟨Nat.le_refl _, Nat.le_refl _⟩ (fun H locs hw => ?_)
                rw [rd_k (F := Fo) (r := t) (a := ra) (k := i) (fun q => by rw [q]; exact hg i (Nat.le_refl _))]
                refine lv_aload_n hx hb dX5_sum_174 rfl (lv_at hl 2 rfl) ?_
                refine lv_iload hx hb dX5_sum_175 (lv_at hl 6 rfl) ?_
                refine lv_iload hx hb dX5_sum_177 (lv_at hl 0 rfl) ?_
                refine bd_cip (As := [.int (nI rb), .int (nI i)]) (rest := [.int (nI (Fo ra i))]) C (m5_at _ _ _ _ _ hm rb i (by omega) (by omega)) (cwV 2 hts gX5_sum_X5_at rfl rfl rfl (by decide +kernel) ⟨Nat.le_of_ble_eq_true rfl, Nat.le_of_ble_eq_true rfl⟩) hsz hw (md_recv C hw hm) dX5_sum_179 rfl hl.1 rfl (Nat.le_of_ble_eq_true rfl) ⟨Nat.le_refl _, Nat.le_refl _⟩ (fun H locs hw => ?_)
                rw [rd_k (F := Fo) (r := t) (a := rb) (k := i) (fun q => by rw [q]; exact hg i (Nat.le_refl _))]
                refine bd_iadd (v := (iZ ((Fo ra i : Int) + (Fo rb i : Int)))) hx hb dX5_sum_182 (nI_add _ _) ?_
                refine lv_iload hx hb dX5_sum_183 (lv_at hl 1 rfl) ?_
                refine bd_iadd (v := (iZ ((Fo ra i : Int) + (Fo rb i : Int) + cy))) hx hb dX5_sum_185 (iZ_add _ _) ?_
                refine lv_goto (tgt := 209) hx hb dX5_sum_186 (by decide) ?_
                refine lv_istore (lv' := [(13, .int (iZ ((Fo ra i : Int) + (Fo rb i : Int) + cy))), (12, .int (nI i)), (11, .int (iZ cy)), (0, .ref (mo 0)), (1, .int (nI t)), (6, .int (nI 1)), (8, .int (nI ra)), (9, .int (nI rb)), (10, .int (q_sg (rg0 ra)))]) hx hb dX5_sum_209 hl (by decide) rfl (fun ls hl => ?_)
                refine lv_aload_n hx hb dX5_sum_211 rfl (lv_at hl 3 rfl) ?_
                refine md_g C i5 hw hm 3 (by decide) (v := .ref (mo 1)) rfl dX5_sum_212 lk7 ?_
                refine lv_bipush (v := nI 34) hx hb dX5_sum_215 (by decide) ?_
                refine lv_iload_n hx hb dX5_sum_217 rfl (lv_at hl 4 rfl) ?_
                refine bd_imul (v := nI (34 * t)) hx hb dX5_sum_218 (nI_mul _ _) ?_
                refine lv_iload hx hb dX5_sum_219 (lv_at hl 1 rfl) ?_
                refine bd_iadd (v := nI (34 * t + i)) hx hb dX5_sum_221 (nI_add _ _) ?_
                refine lv_iload hx hb dX5_sum_222 (lv_at hl 0 rfl) ?_
                refine lv_ldc (v := nI 16777215) hx hb hown (hts _ lk70) dX5_sum_224 ?_
                refine bd_iand (v := (nI (((Fo ra i : Int) + (Fo rb i : Int) + cy) % 16777216).toNat)) hx hb dX5_sum_226 (i_msZ _) ?_
                refine md_st1u C hw (r := t) (k := i) (x := ((((Fo ra i : Int) + (Fo rb i : Int) + cy) % 16777216).toNat)) hm dX5_sum_227 (by omega) (by omega) (fun E H locs hm hw => ?_)
                refine lv_iload hx hb dX5_sum_228 (lv_at hl 0 rfl) ?_
                refine lv_bipush (v := nI 24) hx hb dX5_sum_230 (by decide) ?_
                refine bd_ishr (v := (iZ (((Fo ra i : Int) + (Fo rb i : Int) + cy) / 16777216))) hx hb dX5_sum_232 (i_sh24 (by omega) (by omega)) ?_
                refine lv_istore (lv' := [(11, .int (iZ (((Fo ra i : Int) + (Fo rb i : Int) + cy) / 16777216))), (13, .int (iZ ((Fo ra i : Int) + (Fo rb i : Int) + cy))), (12, .int (nI i)), (0, .ref (mo 0)), (1, .int (nI t)), (6, .int (nI 1)), (8, .int (nI ra)), (9, .int (nI rb)), (10, .int (q_sg (rg0 ra)))]) hx hb dX5_sum_233 hl (by decide) rfl (fun ls hl => ?_)
                refine lv_iinc (v := (nI (i + 1))) (lv' := [(12, .int (nI (i + 1))), (11, .int (iZ (((Fo ra i : Int) + (Fo rb i : Int) + cy) / 16777216))), (13, .int (iZ ((Fo ra i : Int) + (Fo rb i : Int) + cy))), (0, .ref (mo 0)), (1, .int (nI t)), (6, .int (nI 1)), (8, .int (nI ra)), (9, .int (nI rb)), (10, .int (q_sg (rg0 ra)))]) hx hb dX5_sum_235 hl (k := 2) rfl (nI_1 _) (by decide) rfl (fun ls hl => ?_)
                refine lv_goto (tgt := 154) hx hb dX5_sum_238 (by decide) ?_
                exact ih (d9 - 1) (by omega) (i + 1) _ (((Fo ra i : Int) + (Fo rb i : Int) + cy) / 16777216) E ls H locs (by omega) hm (up_s (T := fun _ y => y < 16777216) hfb (by omega)) (up_g hg) (by omega) (sm_st (V := ((Fo ra i : Int) + (Fo rb i : Int) + cy)) hsum (by omega)) (lv_sub hl [0, 1, 3, 4, 5, 6, 7, 8] rfl) hw
    · have hx0 : rg0 ra = 0 := sg_0 (by rw [← hga]; exact hc22)
      refine lv_iload hx hb dX5_sum_25 (lv_at hl 0 rfl) ?_
      refine lv_if_ne (tgt := 34) hx hb dX5_sum_27 (by decide) (fun hc27 => ?_) (fun hc27 => ?_)
      · refine lv_iload_n hx hb dX5_sum_34 rfl (lv_at hl 4 rfl) ?_
        refine lv_istore (lv' := [(6, .int (nI rb)), (5, .int (q_sg y)), (0, .ref (mo 0)), (1, .int (nI t)), (2, .int (nI ra)), (3, .int (nI rb)), (4, .int sgn)]) hx hb dX5_sum_35 hl (by decide) rfl (fun ls hl => ?_)
        refine lv_iload hx hb dX5_sum_37 (lv_at hl 1 rfl) ?_
        refine lv_if_ne (tgt := 51) hx hb dX5_sum_39 (by decide) (fun hc39 => ?_) (fun hc39 => ?_)
        · refine lv_iload hx hb dX5_sum_51 (lv_at hl 1 rfl) ?_
          refine lv_istore (lv' := [(7, .int (q_sg y)), (6, .int (nI rb)), (5, .int (q_sg y)), (0, .ref (mo 0)), (1, .int (nI t)), (2, .int (nI ra)), (3, .int (nI rb)), (4, .int sgn)]) hx hb dX5_sum_53 hl (by decide) rfl (fun ls hl => ?_)
          refine lv_aload_n hx hb dX5_sum_55 rfl (lv_at hl 3 rfl) ?_
          refine lv_iload_n hx hb dX5_sum_56 rfl (lv_at hl 4 rfl) ?_
          refine lv_iload hx hb dX5_sum_57 (lv_at hl 1 rfl) ?_
          refine bd_cv (As := [.int (nI t), .int (nI rb)]) (rest := []) C (m5_copy _ _ _ _ _ hm t rb (by omega) (by omega)) (cwV 2 hts gX5_sum_X5_copy rfl rfl rfl (by decide +kernel) ⟨Nat.le_of_ble_eq_true rfl, Nat.le_of_ble_eq_true rfl⟩) hsz hw (md_recv C hw hm) dX5_sum_59 rfl hl.1 rfl (Nat.le_of_ble_eq_true rfl) ⟨Nat.le_refl _, Nat.le_refl _⟩ (fun E z H locs hp hw => ?_)
          obtain ⟨f1, hf1, hm⟩ := hp
          refine lv_aload_n hx hb dX5_sum_62 rfl (lv_at hl 3 rfl) ?_
          refine md_g C i5 hw hm 4 (by decide) (v := .ref (mo 2)) rfl dX5_sum_63 lk13 ?_
          refine lv_iload_n hx hb dX5_sum_66 rfl (lv_at hl 4 rfl) ?_
          refine lv_iload hx hb dX5_sum_67 (lv_at hl 0 rfl) ?_
          refine md_st2u C hw (r := t) (x := (q_sg y)) hm dX5_sum_69 (by omega) (fun E H locs hm hw => ?_)
          exact bd_vret C hr hlk hw dX5_sum_70 (mv_end hm hrg (fun k hk => by rw [hf1 k hk]; exact hFb k hk) (by rw [h_cg hf1, hvb]; omega) (by rw [hx0, Int.zero_add]))
        · exact absurd (sg_0 hc39) hy0
      · exact absurd (sg_0 hc27) hy0
set_option maxHeartbeats 4000000 in
set_option maxRecDepth 100000 in
/-- plus -/
theorem v5_plus (l : Launch) (K : Cxt) (E0 : Nat → va_E) (z0 : Nat → Wh) (sz : Nat) {mo : Nat → Nat} {th : Int32} {P : Nat} {rg0 : Nat → Int} (hv : md_v K E0 mo th P rg0) (t ra rb : Nat) (ht60 : t < 60) (ha60 : ra < 60) (hb60 : rb < 60) (hfit : (rg0 ra + rg0 rb).natAbs < 16777216 ^ 34) : Met l yX5_plus wsX5_plus ({ frames := 3, cells := 0, slots := 0, locals := 100 }) (va_Pc [.ref (mo 0), .int (nI t), .int (nI ra), .int (nI rb)] (bd_P K E0 z0 sz)) (va_Qv (mv_q K mo th P rg0 t (rg0 ra + rg0 rb)) (bd_B K) (bd_A K sz)) 0 0 (bd_A K sz) := by
  refine bd_ofW (cc := cX5_plus) (maxL := 4) (ret := none) (by decide) rfl (Nat.le_of_ble_eq_true rfl) ?_
  intro p e s m below meth c ls C hr hlk hsz hw hl
  have hx := C.1
  have hb := C.2.1
  have hown := C.2.2.2.1
  have hts := C.2.2.2.2.1
  have hl : lv_has ls 4 [(0, .ref (mo 0)), (1, .int (nI t)), (2, .int (nI ra)), (3, .int (nI rb))] := hl
  obtain ⟨hP1, hP2⟩ := mv_P hv
  refine lv_aload_n hx hb dX5_plus_0 rfl (lv_at hl 0 rfl) ?_
  refine lv_iload_n hx hb dX5_plus_1 rfl (lv_at hl 1 rfl) ?_
  refine lv_iload_n hx hb dX5_plus_2 rfl (lv_at hl 2 rfl) ?_
  refine lv_iload_n hx hb dX5_plus_3 rfl (lv_at hl 3 rfl) ?_
  refine lv_iconst (v := nI 1) hx hb dX5_plus_4 (by decide) ?_
  refine bd_cv (As := [.int (nI t), .int (nI ra), .int (nI rb), .int (nI 1)]) (rest := []) C (v5_sum _ _ _ _ _ hv t ra rb 1 ht60 ha60 hb60 (Or.inl rfl) (by rw [sm_p]; exact hfit)) (cwV 4 hts gX5_plus_X5_sum rfl rfl rfl (by decide +kernel) ⟨Nat.le_of_ble_eq_true rfl, Nat.le_of_ble_eq_true rfl⟩) hsz hw (mv_recv C hw hv) dX5_plus_5 rfl hl.1 rfl (Nat.le_of_ble_eq_true rfl) ⟨Nat.le_refl _, Nat.le_refl _⟩ (fun E z H locs hp hw => ?_)
  exact bd_vret C hr hlk hw dX5_plus_8 (by rw [sm_p] at hp; exact hp)
set_option maxHeartbeats 4000000 in
set_option maxRecDepth 100000 in
/-- minus -/
theorem v5_minus (l : Launch) (K : Cxt) (E0 : Nat → va_E) (z0 : Nat → Wh) (sz : Nat) {mo : Nat → Nat} {th : Int32} {P : Nat} {rg0 : Nat → Int} (hv : md_v K E0 mo th P rg0) (t ra rb : Nat) (ht60 : t < 60) (ha60 : ra < 60) (hb60 : rb < 60) (hfit : (rg0 ra - rg0 rb).natAbs < 16777216 ^ 34) : Met l yX5_minus wsX5_minus ({ frames := 3, cells := 0, slots := 0, locals := 100 }) (va_Pc [.ref (mo 0), .int (nI t), .int (nI ra), .int (nI rb)] (bd_P K E0 z0 sz)) (va_Qv (mv_q K mo th P rg0 t (rg0 ra - rg0 rb)) (bd_B K) (bd_A K sz)) 0 0 (bd_A K sz) := by
  refine bd_ofW (cc := cX5_minus) (maxL := 4) (ret := none) (by decide) rfl (Nat.le_of_ble_eq_true rfl) ?_
  intro p e s m below meth c ls C hr hlk hsz hw hl
  have hx := C.1
  have hb := C.2.1
  have hown := C.2.2.2.1
  have hts := C.2.2.2.2.1
  have hl : lv_has ls 4 [(0, .ref (mo 0)), (1, .int (nI t)), (2, .int (nI ra)), (3, .int (nI rb))] := hl
  obtain ⟨hP1, hP2⟩ := mv_P hv
  refine lv_aload_n hx hb dX5_minus_0 rfl (lv_at hl 0 rfl) ?_
  refine lv_iload_n hx hb dX5_minus_1 rfl (lv_at hl 1 rfl) ?_
  refine lv_iload_n hx hb dX5_minus_2 rfl (lv_at hl 2 rfl) ?_
  refine lv_iload_n hx hb dX5_minus_3 rfl (lv_at hl 3 rfl) ?_
  refine lv_iconst (v := (-1)) hx hb dX5_minus_4 (by decide) ?_
  refine bd_cv (As := [.int (nI t), .int (nI ra), .int (nI rb), .int (-1)]) (rest := []) C (v5_sum _ _ _ _ _ hv t ra rb (-1) ht60 ha60 hb60 (Or.inr rfl) (by rw [sm_m]; exact hfit)) (cwV 4 hts gX5_minus_X5_sum rfl rfl rfl (by decide +kernel) ⟨Nat.le_of_ble_eq_true rfl, Nat.le_of_ble_eq_true rfl⟩) hsz hw (mv_recv C hw hv) dX5_minus_5 rfl hl.1 rfl (Nat.le_of_ble_eq_true rfl) ⟨Nat.le_refl _, Nat.le_refl _⟩ (fun E z H locs hp hw => ?_)
  exact bd_vret C hr hlk hw dX5_minus_8 (by rw [sm_m] at hp; exact hp)
set_option maxHeartbeats 4000000 in
set_option maxRecDepth 100000 in
/-- addSmall(t, v) -/
theorem v5_addSmall (l : Launch) (K : Cxt) (E0 : Nat → va_E) (z0 : Nat → Wh) (sz : Nat) {mo : Nat → Nat} {th : Int32} {P : Nat} {rg0 : Nat → Int} (hv : md_v K E0 mo th P rg0) (t : Nat) (v : Int32) (ht60 : t < 60) (ht32 : t ≠ 32) (hfit : (rg0 t + v.toInt).natAbs < 16777216 ^ 34) : Met l yX5_addSmall wsX5_addSmall ({ frames := 4, cells := 0, slots := 0, locals := 130 }) (va_Pc [.ref (mo 0), .int (nI t), .int v] (bd_P K E0 z0 sz)) (va_Qv (fun u => ∃ rg : Nat → Int, md_v K u.1 mo th P rg ∧ rg t = rg0 t + v.toInt ∧ ∀ j, j ≠ t → j ≠ 32 → rg j = rg0 j) (bd_B K) (bd_A K sz)) 0 0 (bd_A K sz) := by
  refine bd_ofW (cc := cX5_addSmall) (maxL := 3) (ret := none) (by decide) rfl (Nat.le_of_ble_eq_true rfl) ?_
  intro p e s m below meth c ls C hr hlk hsz hw hl
  have hx := C.1
  have hb := C.2.1
  have hown := C.2.2.2.1
  have hts := C.2.2.2.2.1
  have hl : lv_has ls 3 [(0, .ref (mo 0)), (1, .int (nI t)), (2, .int v)] := hl
  obtain ⟨hP1, hP2⟩ := mv_P hv
  refine lv_aload_n hx hb dX5_addSmall_0 rfl (lv_at hl 0 rfl) ?_
  refine lv_bipush (v := nI 32) hx hb dX5_addSmall_1 (by decide) ?_
  refine lv_iload_n hx hb dX5_addSmall_3 rfl (lv_at hl 2 rfl) ?_
  refine bd_i2l (v := v.toInt64) hx hb dX5_addSmall_4 (rfl) ?_
  refine bd_cv (As := [.int (nI 32), .long v.toInt64]) (rest := []) C (v5_put _ _ _ _ _ hv 32 v.toInt64 (by decide)) (cwV 2 hts gX5_addSmall_X5_put rfl rfl rfl (by decide +kernel) ⟨Nat.le_of_ble_eq_true rfl, Nat.le_of_ble_eq_true rfl⟩) hsz hw (mv_recv C hw hv) dX5_addSmall_5 rfl hl.1 rfl (Nat.le_of_ble_eq_true rfl) ⟨Nat.le_refl _, Nat.le_refl _⟩ (fun E z H locs hp hw => ?_)
  obtain ⟨rg, hv, hv9, hf9⟩ := hp
  rw [Int32.toInt_toInt64] at hv9
  have ht9 := hf9 t ht32
  refine lv_aload_n hx hb dX5_addSmall_8 rfl (lv_at hl 0 rfl) ?_
  refine lv_iload_n hx hb dX5_addSmall_9 rfl (lv_at hl 1 rfl) ?_
  refine lv_iload_n hx hb dX5_addSmall_10 rfl (lv_at hl 1 rfl) ?_
  refine lv_bipush (v := nI 32) hx hb dX5_addSmall_11 (by decide) ?_
  refine bd_cv (As := [.int (nI t), .int (nI t), .int (nI 32)]) (rest := []) C (v5_plus _ _ _ _ _ hv t t 32 ht60 ht60 (by decide) (by rw [ht9, hv9]; exact hfit)) (cwV 3 hts gX5_addSmall_X5_plus rfl rfl rfl (by decide +kernel) ⟨Nat.le_of_ble_eq_true rfl, Nat.le_of_ble_eq_true rfl⟩) hsz hw (mv_recv C hw hv) dX5_addSmall_13 rfl hl.1 rfl (Nat.le_of_ble_eq_true rfl) ⟨Nat.le_refl _, Nat.le_refl _⟩ (fun E z H locs hp hw => ?_)
  obtain ⟨rg2, hv2, hv8, hf8⟩ := hp
  exact bd_vret C hr hlk hw dX5_addSmall_16 ⟨rg2, hv2, by rw [hv8, ht9, hv9], fun j h1 h2 => (hf8 j h1).trans (hf9 j h2)⟩
