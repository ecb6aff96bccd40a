/-! Division.guess (laid by wip/gen/m_div3.py) -/
theorem dv_gm {g v l u : Nat} (h : 1 ≤ g) (hg : g * v + l = u) : (g - 1) * v + (l + v) = u := by
  obtain ⟨x, rfl⟩ : ∃ x, g = x + 1 := ⟨g - 1, by omega⟩
  rw [Nat.add_mul, Nat.one_mul] at hg
  rw [Nat.add_sub_cancel]
  omega
set_option maxHeartbeats 4000000 in
set_option maxRecDepth 100000 in
/-- Division.guess(j) -/
theorem c1_guess (l : Launch) (K : Cxt) (E0 : Nat → va_E) (z0 : Nat → Wh) (sz dv rs bs : Nat) (j : Nat) {ln fl : Nat} {Fo Go : Nat → Nat} (hdv : dv_at K E0 dv rs bs ln fl Fo Go) (hF : ∀ k, k < 25 → Fo k < 4294967296) (hG : ∀ k, k < 24 → Go k < 4294967296) (hln : 0 < ln) (hj : j + ln ≤ 24) (hnm : 2147483648 ≤ Go (ln - 1)) (hWV : q_s (fun i => Fo (j + i)) (ln + 1) < 4294967296 * q_s Go ln) : Met l yX1_guess wsX1_guess ({ frames := 0, cells := 0, slots := 0, locals := 0 }) (va_Pc [.ref dv, .int (nI j)] (bd_P K E0 z0 sz)) (va_Ql (fun r u => u = (E0, z0) ∧ ∃ g : Nat, r = lN g ∧ g < 4294967296 ∧ q_s (fun i => Fo (j + i)) (ln + 1) / q_s Go ln ≤ g ∧ g ≤ q_s (fun i => Fo (j + i)) (ln + 1) / q_s Go ln + 1) (bd_B K) (bd_A K sz)) 0 0 (bd_A K sz) := by
  refine bd_ofW (cc := cX1_guess) (maxL := 19) (ret := (some .long)) (by decide) rfl (Nat.le_of_ble_eq_true rfl) ?_
  intro p e s m below meth c ls C hr hlk hsz hw hl
  have hx := C.1
  have hb := C.2.1
  have hown := C.2.2.2.1
  have hts := C.2.2.2.2.1
  have i1d : ∀ w ∈ wsX10, w ∈ wsX1_guess := by decide +kernel
  have lk9 : Cond.fieldLink RX1 9 "BallDesk$Division" "rest" "[J" ∈ wsX1_guess := by decide +kernel
  have lk28 : Cond.fieldLink RX1 28 "BallDesk$Division" "length" "I" ∈ wsX1_guess := by decide +kernel
  have lk15 : Cond.fieldLink RX1 15 "BallDesk$Division" "by" "[J" ∈ wsX1_guess := by decide +kernel
  have lk78 : Cond.constantLong RX1 78 (4294967295) ∈ wsX1_guess := by decide +kernel
  have hoe : dv_fr dv rs bs E0 E0 := dv_rf
  have hl : lv_has ls 19 [(0, .ref dv), (1, .int (nI j))] := hl
  obtain ⟨k, rfl⟩ : ∃ k, ln = k + 1 := ⟨ln - 1, by omega⟩
  rw [Nat.add_sub_cancel] at hnm
  have hW2 := kn_top2 (f := fun i => Fo (j + i)) (k := k) (fun i hi => hF _ (by omega))
  have hV1 := kn_top1 (f := Go) (k := k) (fun i hi => hG _ (by omega))
  have hVp : 0 < q_s Go (k + 1) := q_nz (f := Go) (j := k) (by omega) (by omega)
  have hW3 : 1 ≤ k → q_s (fun i => Fo (j + i)) (k + 1 + 1) = ((Fo (j + (k + 1)) * 4294967296 + Fo (j + k)) * 4294967296 + Fo (j + (k - 1))) * 4294967296 ^ (k - 1) + q_s (fun i => Fo (j + i)) (k - 1) ∧ q_s (fun i => Fo (j + i)) (k - 1) < 4294967296 ^ (k - 1) := fun h1 => by
    obtain ⟨i, rfl⟩ : ∃ i, k = i + 1 := ⟨k - 1, by omega⟩
    exact kn_top3 (f := fun i => Fo (j + i)) (k := i) (fun x hx => hF _ (by omega))
  have hV2 : 1 ≤ k → q_s Go (k + 1) = (Go k * 4294967296 + Go (k - 1)) * 4294967296 ^ (k - 1) + q_s Go (k - 1) ∧ q_s Go (k - 1) < 4294967296 ^ (k - 1) := fun h1 => by
    obtain ⟨i, rfl⟩ : ∃ i, k = i + 1 := ⟨k - 1, by omega⟩
    exact kn_top2 (f := Go) (k := i) (fun x hx => hG _ (by omega))
  have hu1 := hF (j + (k + 1)) (by omega)
  have hu2 := hF (j + k) (by omega)
  have hv1 := hG k (by omega)
  obtain ⟨Wn, hWe⟩ : ∃ Wn, Wn = q_s (fun i => Fo (j + i)) (k + 1 + 1) := ⟨_, rfl⟩
  obtain ⟨Vn, hVe⟩ : ∃ Vn, Vn = q_s Go (k + 1) := ⟨_, rfl⟩
  have hW2 : Wn = (Fo (j + (k + 1)) * 4294967296 + Fo (j + k)) * 4294967296 ^ k + q_s (fun i => Fo (j + i)) k ∧ q_s (fun i => Fo (j + i)) k < 4294967296 ^ k := ⟨hWe.trans hW2.1, hW2.2⟩
  rw [← hVe] at hV1 hVp hV2 hWV
  rw [← hWe] at hW3 hWV
  have hq1 : Wn / Vn * Vn ≤ Wn := Nat.div_mul_le_self Wn Vn
  have hq2 : Wn < (Wn / Vn + 1) * Vn := by rw [Nat.mul_comm]; exact Nat.lt_mul_div_succ Wn hVp
  have hqB : Wn / Vn < 4294967296 := Nat.div_lt_of_lt_mul (by rw [Nat.mul_comm]; exact hWV)
  obtain ⟨qn, hqe⟩ : ∃ q, q = Wn / Vn := ⟨_, rfl⟩
  rw [← hqe] at hq1 hq2 hqB
  suffices hgo : ∀ (u1 u2 v1 : Nat), u1 = Fo (j + (k + 1)) → u2 = Fo (j + k) → v1 = Go k → W p l e (headSpec wsX1_guess ({ frames := 0, cells := 0, slots := 0, locals := 0 })).room s m [.ref dv, .int (nI j)].toArray below meth c s.heap [] 0 0 (MQ below (va_Ql (fun r u => u = (E0, z0) ∧ ∃ g : Nat, r = lN g ∧ g < 4294967296 ∧ q_s (fun i => Fo (j + i)) (k + 1 + 1) / q_s Go (k + 1) ≤ g ∧ g ≤ q_s (fun i => Fo (j + i)) (k + 1 + 1) / q_s Go (k + 1) + 1) (bd_B K) (bd_A K sz)) [.ref dv, .int (nI j)].toArray s 0 0 (bd_A K sz)) (F0 m 0 ls []) from hgo _ _ _ rfl rfl rfl
  intro u1 u2 v1 e1 e2 e3
  rw [← e1] at hW2 hW3 hu1
  rw [← e2] at hW2 hW3 hu2
  rw [← e3] at hV1 hV2 hv1 hnm
  have hsm := kn_same hW2.1 hV1.1 hV1.2 hWV
  refine lv_aload_n hx hb dX1_guess_0 rfl (lv_at hl 0 rfl) ?_
  refine dv_grs C i1d hw hdv dX1_guess_1 lk9 ?_
  refine lv_iload_n hx hb dX1_guess_4 rfl (lv_at hl 1 rfl) ?_
  refine lv_aload_n hx hb dX1_guess_5 rfl (lv_at hl 0 rfl) ?_
  refine dv_gln C i1d hw hdv dX1_guess_6 lk28 ?_
  refine bd_iadd (v := (nI (j + (k + 1)))) hx hb dX1_guess_9 (nI_add _ _) ?_
  refine dv_ldR C hw hdv dX1_guess_10 (by omega) ?_
  rw [← e1]
  refine lv_lstore_n (lv' := [(2, .long (lN u1)), (0, .ref dv), (1, .int (nI j))]) hx hb dX1_guess_11 rfl hl (by decide) rfl (fun ls hl => ?_)
  refine lv_aload_n hx hb dX1_guess_12 rfl (lv_at hl 1 rfl) ?_
  refine dv_grs C i1d hw hdv dX1_guess_13 lk9 ?_
  refine lv_iload_n hx hb dX1_guess_16 rfl (lv_at hl 2 rfl) ?_
  refine lv_aload_n hx hb dX1_guess_17 rfl (lv_at hl 1 rfl) ?_
  refine dv_gln C i1d hw hdv dX1_guess_18 lk28 ?_
  refine bd_iadd (v := (nI (j + (k + 1)))) hx hb dX1_guess_21 (nI_add _ _) ?_
  refine lv_iconst (v := nI 1) hx hb dX1_guess_22 (by decide) ?_
  refine bd_isub (v := (nI (j + k))) hx hb dX1_guess_23 ((pk_sub (a := j + (k + 1)) (b := 1) (by omega)).trans (congrArg nI (by omega))) ?_
  refine dv_ldR C hw hdv dX1_guess_24 (by omega) ?_
  rw [← e2]
  refine lv_lstore (lv' := [(4, .long (lN u2)), (2, .long (lN u1)), (0, .ref dv), (1, .int (nI j))]) hx hb dX1_guess_25 hl (by decide) rfl (fun ls hl => ?_)
  refine lv_aload_n hx hb dX1_guess_27 rfl (lv_at hl 2 rfl) ?_
  refine dv_gbs C i1d hw hdv dX1_guess_28 lk15 ?_
  refine lv_aload_n hx hb dX1_guess_31 rfl (lv_at hl 2 rfl) ?_
  refine dv_gln C i1d hw hdv dX1_guess_32 lk28 ?_
  refine lv_iconst (v := nI 1) hx hb dX1_guess_35 (by decide) ?_
  refine bd_isub (v := (nI k)) hx hb dX1_guess_36 (bd_sub1 (Nat.succ_pos k)) ?_
  refine dv_ldB C hw hdv dX1_guess_37 (by omega) ?_
  rw [← e3]
  refine lv_lstore (lv' := [(6, .long (lN v1)), (4, .long (lN u2)), (2, .long (lN u1)), (0, .ref dv), (1, .int (nI j))]) hx hb dX1_guess_38 hl (by decide) rfl (fun ls hl => ?_)
  refine lv_ldc2 (v := lN 4294967295) hx hb hown (hts _ lk78) dX1_guess_40 ?_
  refine lv_lstore (lv' := [(8, .long (lN 4294967295)), (6, .long (lN v1)), (4, .long (lN u2)), (2, .long (lN u1)), (0, .ref dv), (1, .int (nI j))]) hx hb dX1_guess_43 hl (by decide) rfl (fun ls hl => ?_)
  refine lv_lload hx hb dX1_guess_45 (lv_at hl 2 rfl) ?_
  refine lv_lload hx hb dX1_guess_47 (lv_at hl 1 rfl) ?_
  refine bd_ladd (v := (lN (u2 + v1))) hx hb dX1_guess_49 (lN_add _ _) ?_
  refine lv_lstore (lv' := [(10, .long (lN (u2 + v1))), (8, .long (lN 4294967295)), (6, .long (lN v1)), (4, .long (lN u2)), (2, .long (lN u1)), (0, .ref dv), (1, .int (nI j))]) hx hb dX1_guess_50 hl (by decide) rfl (fun ls hl => ?_)
  suffices hj110 : ∀ (g0 l0 : Nat) (ls : Array Slot), g0 * v1 + l0 = u1 * 4294967296 + u2 → g0 < 4294967296 → l0 < 2 ^ 34 → qn ≤ g0 → g0 ≤ qn + 2 → lv_has ls 19 [(10, .long (lN l0)), (8, .long (lN g0)), (6, .long (lN v1)), (4, .long (lN u2)), (2, .long (lN u1)), (0, .ref dv), (1, .int (nI j))] → W p l e (headSpec wsX1_guess ({ frames := 0, cells := 0, slots := 0, locals := 0 })).room s m [.ref dv, .int (nI j)].toArray below meth c s.heap [] 0 0 (MQ below (va_Ql (fun r u => u = (E0, z0) ∧ ∃ g : Nat, r = lN g ∧ g < 4294967296 ∧ q_s (fun i => Fo (j + i)) (k + 1 + 1) / q_s Go (k + 1) ≤ g ∧ g ≤ q_s (fun i => Fo (j + i)) (k + 1 + 1) / q_s Go (k + 1) + 1) (bd_B K) (bd_A K sz)) [.ref dv, .int (nI j)].toArray s 0 0 (bd_A K sz)) (F0 m 110 ls []) by
    refine lv_lload_n hx hb dX1_guess_52 rfl (lv_at hl 4 rfl) ?_
    refine lv_lload hx hb dX1_guess_53 (lv_at hl 2 rfl) ?_
    refine bd_lge (h1 := (by omega)) (h2 := (by omega)) (tgt := 110) hx hb dX1_guess_55 dX1_guess_56 (by decide) (fun hc55 => ?_) (fun hc55 => ?_)
    · have hsq : u1 = v1 := by omega
      have hgl : 4294967295 * v1 + (u2 + v1) = u1 * 4294967296 + u2 := by omega
      exact hj110 4294967295 (u2 + v1) ls hgl (by decide) (by omega) (by omega) (kn_first hq1 hq2 hW2.1 hW2.2 hV1.1 hV1.2 hnm hgl (by decide)).2 (lv_sub hl [0, 1, 2, 3, 4, 5, 6] rfl)
    · have hkh := kn_half (u := (u1 * 4294967296 + u2)) (v := v1) (by omega)
      refine lv_lload_n hx hb dX1_guess_59 rfl (lv_at hl 4 rfl) ?_
      refine lv_bipush (v := nI 32) hx hb dX1_guess_60 (by decide) ?_
      refine bd_lshl (v := (lN (u1 * 4294967296))) hx hb dX1_guess_62 (wb_shl u1 (k := 32) (by decide)) ?_
      refine lv_lload hx hb dX1_guess_63 (lv_at hl 3 rfl) ?_
      refine bd_lor (v := (lN (u1 * 4294967296 + u2))) hx hb dX1_guess_65 (g_or (k := 32) (by decide) hu2 (by omega)) ?_
      refine lv_lstore (lv' := [(12, .long (lN (u1 * 4294967296 + u2))), (10, .long (lN (u2 + v1))), (8, .long (lN 4294967295)), (6, .long (lN v1)), (4, .long (lN u2)), (2, .long (lN u1)), (0, .ref dv), (1, .int (nI j))]) hx hb dX1_guess_66 hl (by decide) rfl (fun ls hl => ?_)
      refine lv_lload hx hb dX1_guess_68 (lv_at hl 0 rfl) ?_
      refine lv_iconst (v := nI 1) hx hb dX1_guess_70 (by decide) ?_
      refine bd_lushr (v := (lN ((u1 * 4294967296 + u2) / 2))) hx hb dX1_guess_71 (wb_shr (k := 1) (by omega) (by decide)) ?_
      refine lv_lload hx hb dX1_guess_72 (lv_at hl 3 rfl) ?_
      refine bd_ldiv (v := (lN ((u1 * 4294967296 + u2) / 2 / v1))) hx hb dX1_guess_74 (lN_ne0 (by omega) (by omega)) (pk_lDiv (by omega) (by omega) (by omega)) ?_
      refine lv_iconst (v := nI 1) hx hb dX1_guess_75 (by decide) ?_
      refine bd_lshl (v := (lN ((u1 * 4294967296 + u2) / 2 / v1 * 2))) hx hb dX1_guess_76 (wb_shl _ (k := 1) (by decide)) ?_
      refine lv_lstore (lv' := [(8, .long (lN ((u1 * 4294967296 + u2) / 2 / v1 * 2))), (12, .long (lN (u1 * 4294967296 + u2))), (10, .long (lN (u2 + v1))), (6, .long (lN v1)), (4, .long (lN u2)), (2, .long (lN u1)), (0, .ref dv), (1, .int (nI j))]) hx hb dX1_guess_77 hl (by decide) rfl (fun ls hl => ?_)
      refine lv_lload hx hb dX1_guess_79 (lv_at hl 1 rfl) ?_
      refine lv_lload hx hb dX1_guess_81 (lv_at hl 0 rfl) ?_
      refine lv_lload hx hb dX1_guess_83 (lv_at hl 3 rfl) ?_
      refine bd_lmul (v := (lN (((u1 * 4294967296 + u2) / 2 / v1 * 2) * v1))) hx hb dX1_guess_85 (lN_mul _ _) ?_
      refine bd_lsub (v := (lN ((u1 * 4294967296 + u2) - ((u1 * 4294967296 + u2) / 2 / v1 * 2) * v1))) hx hb dX1_guess_86 (lN_sub hkh.2.1) ?_
      refine lv_lstore (lv' := [(10, .long (lN ((u1 * 4294967296 + u2) - ((u1 * 4294967296 + u2) / 2 / v1 * 2) * v1))), (8, .long (lN ((u1 * 4294967296 + u2) / 2 / v1 * 2))), (12, .long (lN (u1 * 4294967296 + u2))), (6, .long (lN v1)), (4, .long (lN u2)), (2, .long (lN u1)), (0, .ref dv), (1, .int (nI j))]) hx hb dX1_guess_87 hl (by decide) rfl (fun ls hl => ?_)
      refine lv_lload hx hb dX1_guess_89 (lv_at hl 0 rfl) ?_
      refine lv_lload hx hb dX1_guess_91 (lv_at hl 3 rfl) ?_
      refine bd_llt (h1 := (by omega)) (h2 := (by omega)) (tgt := 110) hx hb dX1_guess_93 dX1_guess_94 (by decide) (fun hc93 => ?_) (fun hc93 => ?_)
      · have hgl : ((u1 * 4294967296 + u2) / 2 / v1 * 2) * v1 + ((u1 * 4294967296 + u2) - ((u1 * 4294967296 + u2) / 2 / v1 * 2) * v1) = u1 * 4294967296 + u2 := by
          omega
        have hgB : ((u1 * 4294967296 + u2) / 2 / v1 * 2) < 4294967296 := by
          rcases Nat.lt_or_ge ((u1 * 4294967296 + u2) / 2 / v1 * 2) 4294967296 with r | r
          · exact r
          · have h7 := Nat.mul_le_mul_right v1 r
            omega
        have hkf := kn_first hq1 hq2 hW2.1 hW2.2 hV1.1 hV1.2 hnm hgl hgB
        exact hj110 _ _ ls hgl hgB (by omega) (hkf.1 (by omega)) hkf.2 (lv_sub hl [0, 1, 3, 4, 5, 6, 7] rfl)
      · refine lv_lload hx hb dX1_guess_97 (lv_at hl 1 rfl) ?_
        refine lv_lconst (v := lN 1) hx hb dX1_guess_99 rfl ?_
        refine bd_ladd (v := (lN (((u1 * 4294967296 + u2) / 2 / v1 * 2) + 1))) hx hb dX1_guess_100 (lN_add _ _) ?_
        refine lv_lstore (lv' := [(8, .long (lN (((u1 * 4294967296 + u2) / 2 / v1 * 2) + 1))), (10, .long (lN ((u1 * 4294967296 + u2) - ((u1 * 4294967296 + u2) / 2 / v1 * 2) * v1))), (12, .long (lN (u1 * 4294967296 + u2))), (6, .long (lN v1)), (4, .long (lN u2)), (2, .long (lN u1)), (0, .ref dv), (1, .int (nI j))]) hx hb dX1_guess_101 hl (by decide) rfl (fun ls hl => ?_)
        refine lv_lload hx hb dX1_guess_103 (lv_at hl 1 rfl) ?_
        refine lv_lload hx hb dX1_guess_105 (lv_at hl 3 rfl) ?_
        refine bd_lsub (v := (lN ((u1 * 4294967296 + u2) - ((u1 * 4294967296 + u2) / 2 / v1 * 2) * v1 - v1))) hx hb dX1_guess_107 (lN_sub hc93) ?_
        refine lv_lstore (lv' := [(10, .long (lN ((u1 * 4294967296 + u2) - ((u1 * 4294967296 + u2) / 2 / v1 * 2) * v1 - v1))), (8, .long (lN (((u1 * 4294967296 + u2) / 2 / v1 * 2) + 1))), (12, .long (lN (u1 * 4294967296 + u2))), (6, .long (lN v1)), (4, .long (lN u2)), (2, .long (lN u1)), (0, .ref dv), (1, .int (nI j))]) hx hb dX1_guess_108 hl (by decide) rfl (fun ls hl => ?_)
        have hgl : (((u1 * 4294967296 + u2) / 2 / v1 * 2) + 1) * v1 + ((u1 * 4294967296 + u2) - ((u1 * 4294967296 + u2) / 2 / v1 * 2) * v1 - v1) = u1 * 4294967296 + u2 := by
          rw [Nat.add_mul ((u1 * 4294967296 + u2) / 2 / v1 * 2) 1, Nat.one_mul]
          omega
        have hgB : (((u1 * 4294967296 + u2) / 2 / v1 * 2) + 1) < 4294967296 := by
          rcases Nat.lt_or_ge (((u1 * 4294967296 + u2) / 2 / v1 * 2) + 1) 4294967296 with r | r
          · exact r
          · have h7 := Nat.mul_le_mul_right v1 r
            omega
        have hkf := kn_first hq1 hq2 hW2.1 hW2.2 hV1.1 hV1.2 hnm hgl hgB
        exact hj110 _ _ ls hgl hgB (by omega) (hkf.1 (by omega)) hkf.2 (lv_sub hl [0, 1, 3, 4, 5, 6, 7] rfl)
  clear hl ls
  intro g0 l0 ls hgl hgB hl34 hqg hgq hl
  obtain ⟨u3, hu3⟩ : ∃ x, x = if 1 ≤ k then Fo (j + (k - 1)) else 0 := ⟨_, rfl⟩
  suffices hj135 : W p l e (headSpec wsX1_guess ({ frames := 0, cells := 0, slots := 0, locals := 0 })).room s m [.ref dv, .int (nI j)].toArray below meth c s.heap [] 0 0 (MQ below (va_Ql (fun r u => u = (E0, z0) ∧ ∃ g : Nat, r = lN g ∧ g < 4294967296 ∧ q_s (fun i => Fo (j + i)) (k + 1 + 1) / q_s Go (k + 1) ≤ g ∧ g ≤ q_s (fun i => Fo (j + i)) (k + 1 + 1) / q_s Go (k + 1) + 1) (bd_B K) (bd_A K sz)) [.ref dv, .int (nI j)].toArray s 0 0 (bd_A K sz)) (F0 m 135 ls [.long (lN u3)]) by
    refine lv_aload_n hx hb dX1_guess_110 rfl (lv_at hl 5 rfl) ?_
    refine dv_gln C i1d hw hdv dX1_guess_111 lk28 ?_
    refine lv_iconst (v := nI 1) hx hb dX1_guess_114 (by decide) ?_
    refine bd_ile (h1 := (by omega)) (h2 := (by omega)) (tgt := 134) hx hb dX1_guess_115 (by decide) (fun hc115 => ?_) (fun hc115 => ?_)
    · refine lv_lconst (v := lN 0) hx hb dX1_guess_134 rfl ?_
      rw [hu3, if_neg (by omega)] at hj135
      exact hj135
    · refine lv_aload_n hx hb dX1_guess_118 rfl (lv_at hl 5 rfl) ?_
      refine dv_grs C i1d hw hdv dX1_guess_119 lk9 ?_
      refine lv_iload_n hx hb dX1_guess_122 rfl (lv_at hl 6 rfl) ?_
      refine lv_aload_n hx hb dX1_guess_123 rfl (lv_at hl 5 rfl) ?_
      refine dv_gln C i1d hw hdv dX1_guess_124 lk28 ?_
      refine bd_iadd (v := (nI (j + (k + 1)))) hx hb dX1_guess_127 (nI_add _ _) ?_
      refine lv_iconst (v := nI 2) hx hb dX1_guess_128 (by decide) ?_
      refine bd_isub (v := (nI (j + (k - 1)))) hx hb dX1_guess_129 ((pk_sub (a := j + (k + 1)) (b := 2) (by omega)).trans (congrArg nI (by omega))) ?_
      refine dv_ldR C hw hdv dX1_guess_130 (by omega) ?_
      refine lv_goto (tgt := 135) hx hb dX1_guess_131 (by decide) ?_
      rw [hu3, if_pos (by omega)] at hj135
      exact hj135
  have hu3B : u3 < 4294967296 := by
    rw [hu3]
    split
    · exact hF _ (by omega)
    · decide
  refine lv_lstore (lv' := [(12, .long (lN u3)), (10, .long (lN l0)), (8, .long (lN g0)), (6, .long (lN v1)), (4, .long (lN u2)), (2, .long (lN u1)), (0, .ref dv), (1, .int (nI j))]) hx hb dX1_guess_135 hl (by decide) rfl (fun ls hl => ?_)
  obtain ⟨v2, hv2⟩ : ∃ x, x = if 1 ≤ k then Go (k - 1) else 0 := ⟨_, rfl⟩
  suffices hj160 : W p l e (headSpec wsX1_guess ({ frames := 0, cells := 0, slots := 0, locals := 0 })).room s m [.ref dv, .int (nI j)].toArray below meth c s.heap [] 0 0 (MQ below (va_Ql (fun r u => u = (E0, z0) ∧ ∃ g : Nat, r = lN g ∧ g < 4294967296 ∧ q_s (fun i => Fo (j + i)) (k + 1 + 1) / q_s Go (k + 1) ≤ g ∧ g ≤ q_s (fun i => Fo (j + i)) (k + 1 + 1) / q_s Go (k + 1) + 1) (bd_B K) (bd_A K sz)) [.ref dv, .int (nI j)].toArray s 0 0 (bd_A K sz)) (F0 m 160 ls [.long (lN v2)]) by
    refine lv_aload_n hx hb dX1_guess_137 rfl (lv_at hl 6 rfl) ?_
    refine dv_gln C i1d hw hdv dX1_guess_138 lk28 ?_
    refine lv_iconst (v := nI 1) hx hb dX1_guess_141 (by decide) ?_
    refine bd_ile (h1 := (by omega)) (h2 := (by omega)) (tgt := 159) hx hb dX1_guess_142 (by decide) (fun hc142 => ?_) (fun hc142 => ?_)
    · refine lv_lconst (v := lN 0) hx hb dX1_guess_159 rfl ?_
      rw [hv2, if_neg (by omega)] at hj160
      exact hj160
    · refine lv_aload_n hx hb dX1_guess_145 rfl (lv_at hl 6 rfl) ?_
      refine dv_gbs C i1d hw hdv dX1_guess_146 lk15 ?_
      refine lv_aload_n hx hb dX1_guess_149 rfl (lv_at hl 6 rfl) ?_
      refine dv_gln C i1d hw hdv dX1_guess_150 lk28 ?_
      refine lv_iconst (v := nI 2) hx hb dX1_guess_153 (by decide) ?_
      refine bd_isub (v := (nI (k - 1))) hx hb dX1_guess_154 ((pk_sub (a := k + 1) (b := 2) (by omega)).trans (congrArg nI (by omega))) ?_
      refine dv_ldB C hw hdv dX1_guess_155 (by omega) ?_
      refine lv_goto (tgt := 160) hx hb dX1_guess_156 (by decide) ?_
      rw [hv2, if_pos (by omega)] at hj160
      exact hj160
  have hv2B : v2 < 4294967296 := by
    rw [hv2]
    split
    · exact hG _ (by omega)
    · decide
  refine lv_lstore (lv' := [(14, .long (lN v2)), (12, .long (lN u3)), (10, .long (lN l0)), (8, .long (lN g0)), (6, .long (lN v1)), (4, .long (lN u2)), (2, .long (lN u1)), (0, .ref dv), (1, .int (nI j))]) hx hb dX1_guess_160 hl (by decide) rfl (fun ls hl => ?_)
  refine lv_iconst (v := nI 0) hx hb dX1_guess_162 (by decide) ?_
  refine lv_istore (lv' := [(16, .int (nI 0)), (14, .long (lN v2)), (12, .long (lN u3)), (10, .long (lN l0)), (8, .long (lN g0)), (6, .long (lN v1)), (4, .long (lN u2)), (2, .long (lN u1)), (0, .ref dv), (1, .int (nI j))]) hx hb dX1_guess_163 hl (by decide) rfl (fun ls hl => ?_)
  have hu3b := hu3B
  suffices hloop : ∀ (d n g lf : Nat) (ls : Array Slot), n + d = 2 → g * v1 + lf = u1 * 4294967296 + u2 → g < 4294967296 → lf < 2 ^ 34 + n * 4294967296 → qn ≤ g → g + n ≤ qn + 2 → lv_has ls 19 [(16, .int (nI n)), (14, .long (lN v2)), (12, .long (lN u3)), (10, .long (lN lf)), (8, .long (lN g)), (6, .long (lN v1)), (0, .ref dv), (1, .int (nI j))] → W p l e (headSpec wsX1_guess ({ frames := 0, cells := 0, slots := 0, locals := 0 })).room s m [.ref dv, .int (nI j)].toArray below meth c s.heap [] 0 0 (MQ below (va_Ql (fun r u => u = (E0, z0) ∧ ∃ g : Nat, r = lN g ∧ g < 4294967296 ∧ q_s (fun i => Fo (j + i)) (k + 1 + 1) / q_s Go (k + 1) ≤ g ∧ g ≤ q_s (fun i => Fo (j + i)) (k + 1 + 1) / q_s Go (k + 1) + 1) (bd_B K) (bd_A K sz)) [.ref dv, .int (nI j)].toArray s 0 0 (bd_A K sz)) (F0 m 165 ls []) from hloop 2 0 g0 l0 ls (by omega) hgl hgB (by omega) hqg (by omega) (lv_sub hl [0, 1, 2, 3, 4, 5, 8, 9] rfl)
  clear hl ls hgl hgB hl34 hqg hgq
  intro d
  induction d using Nat.strongRecOn with
  | ind d ih =>
    intro n g lf ls hnd hgl hgB hlf hqg hgq hl
    refine lv_iload hx hb dX1_guess_165 (lv_at hl 0 rfl) ?_
    refine lv_iconst (v := nI 2) hx hb dX1_guess_167 (by decide) ?_
    refine bd_ige (h1 := (by omega)) (h2 := (by omega)) (tgt := 231) hx hb dX1_guess_168 (by decide) (fun hc168 => ?_) (fun hc168 => ?_)
    · have hle : g ≤ qn + 1 := by omega
      refine lv_lload hx hb dX1_guess_231 (lv_at hl 4 rfl) ?_
      exact bd_lret C hr hlk hw dX1_guess_233 ⟨rfl, g, rfl, hgB, by rw [← hWe, ← hVe, ← hqe]; exact hqg, by rw [← hWe, ← hVe, ← hqe]; exact hle⟩
    · refine lv_lload hx hb dX1_guess_171 (lv_at hl 3 rfl) ?_
      refine lv_ldc2 (v := lN 4294967295) hx hb hown (hts _ lk78) dX1_guess_173 ?_
      refine bd_lgt (h1 := (by omega)) (h2 := (by decide)) (tgt := 231) hx hb dX1_guess_176 dX1_guess_177 (by decide) (fun hc176 => ?_) (fun hc176 => ?_)
      · have hpass : g * v2 ≤ lf * 4294967296 + u3 := by
          have h7 : g * v2 ≤ 4294967295 * 4294967295 := Nat.mul_le_mul (by omega) (by omega)
          omega
        refine lv_lload hx hb dX1_guess_231 (lv_at hl 4 rfl) ?_
        have hle : g ≤ qn + 1 := by
          rcases Nat.eq_zero_or_pos k with r | r
          · subst r
            rw [Nat.pow_zero, Nat.mul_one] at hW2 hV1
            have h8 : g * Vn ≤ Wn := by
              have h9 : Vn = v1 := by omega
              rw [h9]
              omega
            have h9 := (Nat.le_div_iff_mul_le hVp).mpr h8
            rw [← hqe] at h9
            omega
          · rw [hu3, if_pos (show 1 ≤ k from r)] at hpass
            rw [hv2, if_pos (show 1 ≤ k from r)] at hpass
            exact kn_pass hq2 (hW3 r).1 (hV2 r).1 (hV2 r).2 (by omega) hgl hgB hpass
        exact bd_lret C hr hlk hw dX1_guess_233 ⟨rfl, g, rfl, hgB, by rw [← hWe, ← hVe, ← hqe]; exact hqg, by rw [← hWe, ← hVe, ← hqe]; exact hle⟩
      · refine lv_lload hx hb dX1_guess_180 (lv_at hl 4 rfl) ?_
        refine lv_lload hx hb dX1_guess_182 (lv_at hl 1 rfl) ?_
        refine bd_lmul (v := (lN (g * v2))) hx hb dX1_guess_184 (lN_mul _ _) ?_
        refine lv_ldc2 (v := -9223372036854775808) hx hb hown (hts (.constantLong RX1 82 (-9223372036854775808)) (by decide +kernel)) dX1_guess_185 ?_
        refine bd_ladd (v := (lN (g * v2) + (-9223372036854775808))) hx hb dX1_guess_188 (rfl) ?_
        refine lv_lstore (lv' := [(17, .long (lN (g * v2) + (-9223372036854775808))), (16, .int (nI n)), (14, .long (lN v2)), (12, .long (lN u3)), (10, .long (lN lf)), (8, .long (lN g)), (6, .long (lN v1)), (0, .ref dv), (1, .int (nI j))]) hx hb dX1_guess_189 hl (by decide) rfl (fun ls hl => ?_)
        refine lv_lload hx hb dX1_guess_191 (lv_at hl 0 rfl) ?_
        refine lv_lload hx hb dX1_guess_193 (lv_at hl 4 rfl) ?_
        refine lv_bipush (v := nI 32) hx hb dX1_guess_195 (by decide) ?_
        refine bd_lshl (v := (lN (lf * 4294967296))) hx hb dX1_guess_197 (wb_shl lf (k := 32) (by decide)) ?_
        refine lv_lload hx hb dX1_guess_198 (lv_at hl 3 rfl) ?_
        refine bd_lor (v := (lN (lf * 4294967296 + u3))) hx hb dX1_guess_200 (g_or (k := 32) (by decide) hu3B (by omega)) ?_
        refine lv_ldc2 (v := -9223372036854775808) hx hb hown (hts (.constantLong RX1 82 (-9223372036854775808)) (by decide +kernel)) dX1_guess_201 ?_
        refine bd_ladd (v := (lN (lf * 4294967296 + u3) + (-9223372036854775808))) hx hb dX1_guess_204 (rfl) ?_
        have hgv : g * v2 < 2 ^ 64 := by
          have h7 : g * v2 ≤ 4294967295 * 4294967295 := Nat.mul_le_mul (by omega) (by omega)
          omega
        refine bd_lcmp hx hb dX1_guess_205 (bd_uo hgv (by omega)) ?_
        refine lv_if_gt (tgt := 212) hx hb dX1_guess_206 (by decide) (fun hc => ?_) (fun hc => ?_)
        · have hfail := q_c3_pos.mp hc
          have hk1 : 1 ≤ k := by
            rcases Nat.eq_zero_or_pos k with r | r
            · rw [hv2, if_neg (by omega), Nat.mul_zero] at hfail
              exact absurd hfail (Nat.not_lt_zero _)
            · exact r
          have hlt : qn < g := by
            rw [hu3, if_pos hk1] at hfail
            rw [hv2, if_pos hk1] at hfail
            exact kn_fail hq1 (hW3 hk1).1 (hW3 hk1).2 (hV2 hk1).1 hgl hfail
          refine lv_lload hx hb dX1_guess_212 (lv_at hl 5 rfl) ?_
          refine lv_lconst (v := lN 1) hx hb dX1_guess_214 rfl ?_
          refine bd_lsub (v := (lN (g - 1))) hx hb dX1_guess_215 (lN_sub (by omega)) ?_
          refine lv_lstore (lv' := [(8, .long (lN (g - 1))), (17, .long (lN (g * v2) + (-9223372036854775808))), (16, .int (nI n)), (14, .long (lN v2)), (12, .long (lN u3)), (10, .long (lN lf)), (6, .long (lN v1)), (0, .ref dv), (1, .int (nI j))]) hx hb dX1_guess_216 hl (by decide) rfl (fun ls hl => ?_)
          refine lv_lload hx hb dX1_guess_218 (lv_at hl 5 rfl) ?_
          refine lv_lload hx hb dX1_guess_220 (lv_at hl 6 rfl) ?_
          refine bd_ladd (v := (lN (lf + v1))) hx hb dX1_guess_222 (lN_add _ _) ?_
          refine lv_lstore (lv' := [(10, .long (lN (lf + v1))), (8, .long (lN (g - 1))), (17, .long (lN (g * v2) + (-9223372036854775808))), (16, .int (nI n)), (14, .long (lN v2)), (12, .long (lN u3)), (6, .long (lN v1)), (0, .ref dv), (1, .int (nI j))]) hx hb dX1_guess_223 hl (by decide) rfl (fun ls hl => ?_)
          refine lv_iinc (v := (nI (n + 1))) (lv' := [(16, .int (nI (n + 1))), (10, .long (lN (lf + v1))), (8, .long (lN (g - 1))), (17, .long (lN (g * v2) + (-9223372036854775808))), (14, .long (lN v2)), (12, .long (lN u3)), (6, .long (lN v1)), (0, .ref dv), (1, .int (nI j))]) hx hb dX1_guess_225 hl (k := 3) rfl (nI_1 _) (by decide) rfl (fun ls hl => ?_)
          refine lv_goto (tgt := 165) hx hb dX1_guess_228 (by decide) ?_
          exact ih (d - 1) (by omega) (n + 1) (g - 1) (lf + v1) ls (by omega) (dv_gm (by omega) hgl) (by omega) (by omega) (by omega) (by omega) (lv_sub hl [0, 4, 5, 1, 2, 6, 7, 8] rfl)
        · have hpass : g * v2 ≤ lf * 4294967296 + u3 := Nat.not_lt.mp (fun q => hc (q_c3_pos.mpr q))
          refine lv_goto (tgt := 231) hx hb dX1_guess_209 (by decide) ?_
          refine lv_lload hx hb dX1_guess_231 (lv_at hl 5 rfl) ?_
          have hle : g ≤ qn + 1 := by
            rcases Nat.eq_zero_or_pos k with r | r
            · subst r
              rw [Nat.pow_zero, Nat.mul_one] at hW2 hV1
              have h8 : g * Vn ≤ Wn := by
                have h9 : Vn = v1 := by omega
                rw [h9]
                omega
              have h9 := (Nat.le_div_iff_mul_le hVp).mpr h8
              rw [← hqe] at h9
              omega
            · rw [hu3, if_pos (show 1 ≤ k from r)] at hpass
              rw [hv2, if_pos (show 1 ≤ k from r)] at hpass
              exact kn_pass hq2 (hW3 r).1 (hV2 r).1 (hV2 r).2 (by omega) hgl hgB hpass
          exact bd_lret C hr hlk hw dX1_guess_233 ⟨rfl, g, rfl, hgB, by rw [← hWe, ← hVe, ← hqe]; exact hqg, by rw [← hWe, ← hVe, ← hqe]; exact hle⟩
