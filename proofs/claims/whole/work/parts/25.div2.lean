/-! Division.subtract (laid by wip/gen/m_div2.py) -/
theorem dv_01 {c : Prop} [Decidable c] : nI (if c then 1 else 0) = 0 ∨ nI (if c then 1 else 0) = 1 := by
  split
  · exact Or.inr rfl
  · exact Or.inl rfl
theorem dv_01n {c : Prop} [Decidable c] : (if c then 1 else 0) = 0 ∨ (if c then 1 else 0) = 1 := by
  split
  · exact Or.inr rfl
  · exact Or.inl rfl
set_option maxHeartbeats 4000000 in
set_option maxRecDepth 100000 in
/-- Division.subtract(gs, j) -/
theorem c1_subtract (l : Launch) (K : Cxt) (E0 : Nat → va_E) (z0 : Nat → Wh) (sz dv rs bs : Nat) (gs j : Nat) {ln fl : Nat} {Fo Go : Nat → Nat} (hdv : dv_at K E0 dv rs bs ln fl Fo Go) (hF : ∀ k, k < 25 → Fo k < 4294967296) (hG : ∀ k, k < 24 → Go k < 4294967296) (hj : j + ln ≤ 24) (hgs : gs < 4294967296) : Met l yX1_subtract wsX1_subtract ({ frames := 0, cells := 0, slots := 0, locals := 0 }) (va_Pc [.ref dv, .long (lN gs), .int (nI j)] (bd_P K E0 z0 sz)) (va_Qi (fun r u => u.2 = z0 ∧ ∃ (bb : Nat) (F1 : Nat → Nat), r = nI bb ∧ (bb = 0 ∨ bb = 1) ∧ dv_at K u.1 dv rs bs ln fl F1 Go ∧ dv_fr dv rs bs E0 u.1 ∧ (∀ k, k < 25 → F1 k < 4294967296) ∧ (∀ k, (k < j ∨ j + ln < k) → F1 k = Fo k) ∧ q_s (fun k => F1 (j + k)) (ln + 1) + gs * q_s Go ln = q_s (fun k => Fo (j + k)) (ln + 1) + bb * 4294967296 ^ (ln + 1)) (bd_B K) (bd_A K sz)) 0 0 (bd_A K sz) := by
  refine bd_ofW (cc := cX1_subtract) (maxL := 11) (ret := (some .boolean)) (by decide) rfl (Nat.le_of_ble_eq_true rfl) ?_
  intro p e s m below meth c ls C hr hlk hsz hw hl
  have hx := C.1
  have hb := C.2.1
  have hown := C.2.2.2.1
  have hts := C.2.2.2.2.1
  have i1d : ∀ w ∈ wsX10, w ∈ wsX1_subtract := by decide +kernel
  have lk28 : Cond.fieldLink RX1 28 "BallDesk$Division" "length" "I" ∈ wsX1_subtract := by decide +kernel
  have lk9 : Cond.fieldLink RX1 9 "BallDesk$Division" "rest" "[J" ∈ wsX1_subtract := by decide +kernel
  have lk78 : Cond.constantLong RX1 78 (4294967295) ∈ wsX1_subtract := by decide +kernel
  have lk15 : Cond.fieldLink RX1 15 "BallDesk$Division" "by" "[J" ∈ wsX1_subtract := by decide +kernel
  have hoe : dv_fr dv rs bs E0 E0 := dv_rf
  have hl : lv_has ls 11 [(0, .ref dv), (1, .long (lN gs)), (3, .int (nI j))] := hl
  refine lv_lconst (v := lN 0) hx hb dX1_subtract_0 rfl ?_
  refine lv_lstore (lv' := [(4, .long (lN 0)), (0, .ref dv), (1, .long (lN gs)), (3, .int (nI j))]) hx hb dX1_subtract_1 hl (by decide) rfl (fun ls hl => ?_)
  refine lv_iconst (v := nI 0) hx hb dX1_subtract_3 (by decide) ?_
  refine lv_istore (lv' := [(6, .int (nI 0)), (4, .long (lN 0)), (0, .ref dv), (1, .long (lN gs)), (3, .int (nI j))]) hx hb dX1_subtract_4 hl (by decide) rfl (fun ls hl => ?_)
  suffices hloop : ∀ (d i cy : Nat) (E : Nat → va_E) (ls : Array Slot) (H : Heap) (locs : List Loc) (F : Nat → Nat), i + d = ln → dv_at K E dv rs bs ln fl F Go → dv_fr dv rs bs E0 E → (∀ k, k < 25 → F k < 4294967296) → (∀ k, (k < j ∨ j + i ≤ k) → F k = Fo k) → cy < 4294967296 → q_s (fun k => F (j + k)) i + gs * q_s Go i = q_s (fun k => Fo (j + k)) i + cy * 4294967296 ^ i → lv_has ls 11 [(6, .int (nI i)), (4, .long (lN cy)), (0, .ref dv), (1, .long (lN gs)), (3, .int (nI j))] → bd_W K E z0 (bd_A K sz) s.heap H locs → W p l e (headSpec wsX1_subtract ({ frames := 0, cells := 0, slots := 0, locals := 0 })).room s m [.ref dv, .long (lN gs), .int (nI j)].toArray below meth c H locs 0 0 (MQ below (va_Qi (fun r u => u.2 = z0 ∧ ∃ (bb : Nat) (F1 : Nat → Nat), r = nI bb ∧ (bb = 0 ∨ bb = 1) ∧ dv_at K u.1 dv rs bs ln fl F1 Go ∧ dv_fr dv rs bs E0 u.1 ∧ (∀ k, k < 25 → F1 k < 4294967296) ∧ (∀ k, (k < j ∨ j + ln < k) → F1 k = Fo k) ∧ q_s (fun k => F1 (j + k)) (ln + 1) + gs * q_s Go ln = q_s (fun k => Fo (j + k)) (ln + 1) + bb * 4294967296 ^ (ln + 1)) (bd_B K) (bd_A K sz)) [.ref dv, .long (lN gs), .int (nI j)].toArray s 0 0 (bd_A K sz)) (F0 m 6 ls []) from hloop ln 0 0 E0 ls _ _ Fo (by omega) hdv hoe hF (fun _ _ => rfl) (by decide) (by simp [q_s]) (lv_sub hl [0, 1, 2, 3, 4] rfl) hw
  clear hw hl ls hdv hoe
  intro d
  induction d using Nat.strongRecOn with
  | ind d ih =>
    intro i cy E ls H locs F hid hdv hoe hFF hun hcy hv hl hw
    refine lv_iload hx hb dX1_subtract_6 (lv_at hl 0 rfl) ?_
    refine lv_aload_n hx hb dX1_subtract_8 rfl (lv_at hl 2 rfl) ?_
    refine dv_gln C i1d hw hdv dX1_subtract_9 lk28 ?_
    refine bd_ige (h1 := (by omega)) (h2 := (by omega)) (tgt := 89) hx hb dX1_subtract_12 (by decide) (fun hc12 => ?_) (fun hc12 => ?_)
    · have hi : ln = i := by omega
      subst hi
      have hA := hFF (j + ln) (by omega)
      have hTe : F (j + ln) = Fo (j + ln) := hun (j + ln) (Or.inr (by omega))
      refine lv_aload_n hx hb dX1_subtract_89 rfl (lv_at hl 2 rfl) ?_
      refine dv_grs C i1d hw hdv dX1_subtract_90 lk9 ?_
      refine lv_iload_n hx hb dX1_subtract_93 rfl (lv_at hl 4 rfl) ?_
      refine lv_aload_n hx hb dX1_subtract_94 rfl (lv_at hl 2 rfl) ?_
      refine dv_gln C i1d hw hdv dX1_subtract_95 lk28 ?_
      refine bd_iadd (v := (nI (j + ln))) hx hb dX1_subtract_98 (nI_add _ _) ?_
      refine dv_ldR C hw hdv dX1_subtract_99 (by omega) ?_
      refine lv_lload hx hb dX1_subtract_100 (lv_at hl 1 rfl) ?_
      refine bd_lsub (v := (lN (if (F (j + ln)) < cy then (F (j + ln)) + 18446744073709551616 - cy else (F (j + ln)) - cy))) hx hb dX1_subtract_102 (bd_lsub2 _ _ hA hcy) ?_
      refine lv_lstore (lv' := [(6, .long (lN (if (F (j + ln)) < cy then (F (j + ln)) + 18446744073709551616 - cy else (F (j + ln)) - cy))), (4, .long (lN cy)), (0, .ref dv), (1, .long (lN gs)), (3, .int (nI j))]) hx hb dX1_subtract_103 hl (by decide) rfl (fun ls hl => ?_)
      refine lv_aload_n hx hb dX1_subtract_105 rfl (lv_at hl 2 rfl) ?_
      refine dv_grs C i1d hw hdv dX1_subtract_106 lk9 ?_
      refine lv_iload_n hx hb dX1_subtract_109 rfl (lv_at hl 4 rfl) ?_
      refine lv_aload_n hx hb dX1_subtract_110 rfl (lv_at hl 2 rfl) ?_
      refine dv_gln C i1d hw hdv dX1_subtract_111 lk28 ?_
      refine bd_iadd (v := (nI (j + ln))) hx hb dX1_subtract_114 (nI_add _ _) ?_
      refine lv_lload hx hb dX1_subtract_115 (lv_at hl 0 rfl) ?_
      refine lv_ldc2 (v := lN 4294967295) hx hb hown (hts _ lk78) dX1_subtract_117 ?_
      refine bd_land (v := (lN (if (F (j + ln)) < cy then (F (j + ln)) + 4294967296 - cy else (F (j + ln)) - cy))) hx hb dX1_subtract_120 ((bd_m32 (by split <;> omega)).trans (by rw [bd_lsub2m hA hcy])) ?_
      refine dv_stR C hw hdv dX1_subtract_121 (by omega) (fun E H locs hdv hfe hw => ?_)
      have hoe := dv_tr hfe hoe
      suffices hj : W p l e (headSpec wsX1_subtract ({ frames := 0, cells := 0, slots := 0, locals := 0 })).room s m [.ref dv, .long (lN gs), .int (nI j)].toArray below meth c H locs 0 0 (MQ below (va_Qi (fun r u => u.2 = z0 ∧ ∃ (bb : Nat) (F1 : Nat → Nat), r = nI bb ∧ (bb = 0 ∨ bb = 1) ∧ dv_at K u.1 dv rs bs ln fl F1 Go ∧ dv_fr dv rs bs E0 u.1 ∧ (∀ k, k < 25 → F1 k < 4294967296) ∧ (∀ k, (k < j ∨ j + ln < k) → F1 k = Fo k) ∧ q_s (fun k => F1 (j + k)) (ln + 1) + gs * q_s Go ln = q_s (fun k => Fo (j + k)) (ln + 1) + bb * 4294967296 ^ (ln + 1)) (bd_B K) (bd_A K sz)) [.ref dv, .long (lN gs), .int (nI j)].toArray s 0 0 (bd_A K sz)) (F0 m 134 ls [.int (nI (if F (j + ln) < cy then 1 else 0))]) by
        refine lv_lload hx hb dX1_subtract_122 (lv_at hl 0 rfl) ?_
        refine lv_lconst (v := lN 0) hx hb dX1_subtract_124 rfl ?_
        refine bd_lsg (tgt := 133) hx hb dX1_subtract_125 dX1_subtract_126 (by decide) (fun hc => ?_) (fun hc => ?_)
        · refine lv_iconst (v := nI 0) hx hb dX1_subtract_133 (by decide) ?_
          rw [bd_lsub2s hA hcy] at hc
          rw [if_neg hc] at hj
          exact hj
        · refine lv_iconst (v := nI 1) hx hb dX1_subtract_129 (by decide) ?_
          refine lv_goto (tgt := 134) hx hb dX1_subtract_130 (by decide) ?_
          rw [bd_lsub2s hA hcy] at hc
          rw [if_pos hc] at hj
          exact hj
      have hfin : q_s (fun k => (va_up F (j + ln) (if (F (j + ln)) < cy then (F (j + ln)) + 4294967296 - cy else (F (j + ln)) - cy)) (j + k)) (ln + 1) + gs * q_s Go ln = q_s (fun k => Fo (j + k)) (ln + 1) + (if F (j + ln) < cy then 1 else 0) * 4294967296 ^ (ln + 1) := by
        show q_s (fun k => (va_up F (j + ln) (if (F (j + ln)) < cy then (F (j + ln)) + 4294967296 - cy else (F (j + ln)) - cy)) (j + k)) ln + (va_up F (j + ln) (if (F (j + ln)) < cy then (F (j + ln)) + 4294967296 - cy else (F (j + ln)) - cy)) (j + ln) * _ + _ = q_s (fun k => Fo (j + k)) ln + Fo (j + ln) * _ + _
        rw [va_up_self, q_cg (f := fun k => F (j + k)) (fun k hk => va_up_ne _ _ (by omega)), ← hTe, q_ps]
        have h8 := congrArg (· * 4294967296 ^ ln) (q_dfb hA hcy).2
        simp only [Nat.add_mul] at h8
        rw [show (if F (j + ln) < cy then 1 else 0) * (4294967296 ^ ln * 4294967296) = (if F (j + ln) < cy then 1 else 0) * 4294967296 * 4294967296 ^ ln by rw [Nat.mul_assoc, Nat.mul_comm (4294967296 ^ ln)]]
        omega
      exact bd_zret C hr hlk hw dX1_subtract_134 (dv_01) ⟨rfl, _, _, rfl, dv_01n, hdv, hoe, dv_up hFF (q_dfb hA hcy).1, fun k hk => by rw [va_up_ne _ _ (by omega)]; exact hun k (by omega), hfin⟩
    · have hA := hF (j + i) (by omega)
      have hq := q_subc hgs (hG i (by omega)) hcy hA
      have hUL : ((gs * Go i + cy) % 4294967296) < 4294967296 := Nat.mod_lt _ (by decide)
      refine lv_lload_n hx hb dX1_subtract_15 rfl (lv_at hl 3 rfl) ?_
      refine lv_aload_n hx hb dX1_subtract_16 rfl (lv_at hl 2 rfl) ?_
      refine dv_gbs C i1d hw hdv dX1_subtract_17 lk15 ?_
      refine lv_iload hx hb dX1_subtract_20 (lv_at hl 0 rfl) ?_
      refine dv_ldB C hw hdv dX1_subtract_22 (by omega) ?_
      refine bd_lmul (v := (lN (gs * Go i))) hx hb dX1_subtract_23 (lN_mul _ _) ?_
      refine lv_lload hx hb dX1_subtract_24 (lv_at hl 1 rfl) ?_
      refine bd_ladd (v := (lN (gs * Go i + cy))) hx hb dX1_subtract_26 (lN_add _ _) ?_
      refine lv_lstore (lv' := [(7, .long (lN (gs * Go i + cy))), (6, .int (nI i)), (4, .long (lN cy)), (0, .ref dv), (1, .long (lN gs)), (3, .int (nI j))]) hx hb dX1_subtract_27 hl (by decide) rfl (fun ls hl => ?_)
      refine lv_aload_n hx hb dX1_subtract_29 rfl (lv_at hl 3 rfl) ?_
      refine dv_grs C i1d hw hdv dX1_subtract_30 lk9 ?_
      refine lv_iload hx hb dX1_subtract_33 (lv_at hl 1 rfl) ?_
      refine lv_iload_n hx hb dX1_subtract_35 rfl (lv_at hl 5 rfl) ?_
      refine bd_iadd (v := (nI (i + j))) hx hb dX1_subtract_36 (nI_add _ _) ?_
      refine dv_ldR C hw hdv dX1_subtract_37 (by omega) ?_
      rw [show F (i + j) = (Fo (j + i)) by rw [Nat.add_comm i j]; exact hun (j + i) (Or.inr (by omega))]
      refine lv_lload hx hb dX1_subtract_38 (lv_at hl 0 rfl) ?_
      refine lv_ldc2 (v := lN 4294967295) hx hb hown (hts _ lk78) dX1_subtract_40 ?_
      refine bd_land (v := (lN ((gs * Go i + cy) % 4294967296))) hx hb dX1_subtract_43 (bd_m32 hq.1) ?_
      refine bd_lsub (v := (lN (if (Fo (j + i)) < ((gs * Go i + cy) % 4294967296) then (Fo (j + i)) + 18446744073709551616 - ((gs * Go i + cy) % 4294967296) else (Fo (j + i)) - ((gs * Go i + cy) % 4294967296)))) hx hb dX1_subtract_44 (bd_lsub2 _ _ hA hUL) ?_
      refine lv_lstore (lv' := [(9, .long (lN (if (Fo (j + i)) < ((gs * Go i + cy) % 4294967296) then (Fo (j + i)) + 18446744073709551616 - ((gs * Go i + cy) % 4294967296) else (Fo (j + i)) - ((gs * Go i + cy) % 4294967296)))), (7, .long (lN (gs * Go i + cy))), (6, .int (nI i)), (4, .long (lN cy)), (0, .ref dv), (1, .long (lN gs)), (3, .int (nI j))]) hx hb dX1_subtract_45 hl (by decide) rfl (fun ls hl => ?_)
      refine lv_aload_n hx hb dX1_subtract_47 rfl (lv_at hl 4 rfl) ?_
      refine dv_grs C i1d hw hdv dX1_subtract_48 lk9 ?_
      refine lv_iload hx hb dX1_subtract_51 (lv_at hl 2 rfl) ?_
      refine lv_iload_n hx hb dX1_subtract_53 rfl (lv_at hl 6 rfl) ?_
      refine bd_iadd (v := (nI (i + j))) hx hb dX1_subtract_54 (nI_add _ _) ?_
      refine lv_lload hx hb dX1_subtract_55 (lv_at hl 0 rfl) ?_
      refine lv_ldc2 (v := lN 4294967295) hx hb hown (hts _ lk78) dX1_subtract_57 ?_
      refine bd_land (v := (lN (if (Fo (j + i)) < ((gs * Go i + cy) % 4294967296) then (Fo (j + i)) + 4294967296 - ((gs * Go i + cy) % 4294967296) else (Fo (j + i)) - ((gs * Go i + cy) % 4294967296)))) hx hb dX1_subtract_60 ((bd_m32 (by split <;> omega)).trans (by rw [bd_lsub2m hA hUL])) ?_
      refine dv_stR C hw hdv dX1_subtract_61 (by omega) (fun E H locs hdv hfe hw => ?_)
      have hoe := dv_tr hfe hoe
      refine lv_lload hx hb dX1_subtract_62 (lv_at hl 1 rfl) ?_
      refine lv_bipush (v := nI 32) hx hb dX1_subtract_64 (by decide) ?_
      refine bd_lushr (v := (lN ((gs * Go i + cy) / 4294967296))) hx hb dX1_subtract_66 (bd_s32 hq.1) ?_
      suffices hj : W p l e (headSpec wsX1_subtract ({ frames := 0, cells := 0, slots := 0, locals := 0 })).room s m [.ref dv, .long (lN gs), .int (nI j)].toArray below meth c H locs 0 0 (MQ below (va_Qi (fun r u => u.2 = z0 ∧ ∃ (bb : Nat) (F1 : Nat → Nat), r = nI bb ∧ (bb = 0 ∨ bb = 1) ∧ dv_at K u.1 dv rs bs ln fl F1 Go ∧ dv_fr dv rs bs E0 u.1 ∧ (∀ k, k < 25 → F1 k < 4294967296) ∧ (∀ k, (k < j ∨ j + ln < k) → F1 k = Fo k) ∧ q_s (fun k => F1 (j + k)) (ln + 1) + gs * q_s Go ln = q_s (fun k => Fo (j + k)) (ln + 1) + bb * 4294967296 ^ (ln + 1)) (bd_B K) (bd_A K sz)) [.ref dv, .long (lN gs), .int (nI j)].toArray s 0 0 (bd_A K sz)) (F0 m 79 ls [.int (nI (if (Fo (j + i)) < ((gs * Go i + cy) % 4294967296) then 1 else 0)), .long (lN ((gs * Go i + cy) / 4294967296))]) by
        refine lv_lload hx hb dX1_subtract_67 (lv_at hl 0 rfl) ?_
        refine lv_lconst (v := lN 0) hx hb dX1_subtract_69 rfl ?_
        refine bd_lsg (tgt := 78) hx hb dX1_subtract_70 dX1_subtract_71 (by decide) (fun hc => ?_) (fun hc => ?_)
        · refine lv_iconst (v := nI 0) hx hb dX1_subtract_78 (by decide) ?_
          rw [bd_lsub2s hA hUL] at hc
          rw [if_neg hc] at hj
          exact hj
        · refine lv_iconst (v := nI 1) hx hb dX1_subtract_74 (by decide) ?_
          refine lv_goto (tgt := 79) hx hb dX1_subtract_75 (by decide) ?_
          rw [bd_lsub2s hA hUL] at hc
          rw [if_pos hc] at hj
          exact hj
      refine bd_i2l (v := (lN (if (Fo (j + i)) < ((gs * Go i + cy) % 4294967296) then 1 else 0))) hx hb dX1_subtract_79 (nI_l (by split <;> decide)) ?_
      refine bd_ladd (v := (lN ((gs * Go i + cy) / 4294967296 + (if (Fo (j + i)) < ((gs * Go i + cy) % 4294967296) then 1 else 0)))) hx hb dX1_subtract_80 (lN_add _ _) ?_
      refine lv_lstore (lv' := [(4, .long (lN ((gs * Go i + cy) / 4294967296 + (if (Fo (j + i)) < ((gs * Go i + cy) % 4294967296) then 1 else 0)))), (9, .long (lN (if (Fo (j + i)) < ((gs * Go i + cy) % 4294967296) then (Fo (j + i)) + 18446744073709551616 - ((gs * Go i + cy) % 4294967296) else (Fo (j + i)) - ((gs * Go i + cy) % 4294967296)))), (7, .long (lN (gs * Go i + cy))), (6, .int (nI i)), (0, .ref dv), (1, .long (lN gs)), (3, .int (nI j))]) hx hb dX1_subtract_81 hl (by decide) rfl (fun ls hl => ?_)
      refine lv_iinc (v := (nI (i + 1))) (lv' := [(6, .int (nI (i + 1))), (4, .long (lN ((gs * Go i + cy) / 4294967296 + (if (Fo (j + i)) < ((gs * Go i + cy) % 4294967296) then 1 else 0)))), (9, .long (lN (if (Fo (j + i)) < ((gs * Go i + cy) % 4294967296) then (Fo (j + i)) + 18446744073709551616 - ((gs * Go i + cy) % 4294967296) else (Fo (j + i)) - ((gs * Go i + cy) % 4294967296)))), (7, .long (lN (gs * Go i + cy))), (0, .ref dv), (1, .long (lN gs)), (3, .int (nI j))]) hx hb dX1_subtract_83 hl (k := 3) rfl (nI_1 _) (by decide) rfl (fun ls hl => ?_)
      refine lv_goto (tgt := 6) hx hb dX1_subtract_86 (by decide) ?_
      exact ih (d - 1) (by omega) (i + 1) ((gs * Go i + cy) / 4294967296 + (if (Fo (j + i)) < ((gs * Go i + cy) % 4294967296) then 1 else 0)) E ls H locs _ (by omega) hdv hoe (dv_up hFF (q_dfb hA hUL).1) (fun k hk => by rw [va_up_ne _ _ (by omega)]; exact hun k (by omega)) hq.2.1 (q_msub (x := (fun k => Fo (j + k))) (by rw [q_cg (f := fun k => F (j + k)) (fun k hk => va_up_ne _ _ (by omega))]; exact hv) (by show va_up F (i + j) _ (j + i) + _ = _; rw [show j + i = i + j from Nat.add_comm j i, va_up_self]; rw [show j + i = i + j from Nat.add_comm j i] at hq; exact hq.2.2)) (lv_sub hl [0, 1, 4, 5, 6] rfl) hw
