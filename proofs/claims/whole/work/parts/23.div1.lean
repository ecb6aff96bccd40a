/-! Division: isNothingLeft, addBack (laid by wip/gen/m_div1.py) -/
set_option maxHeartbeats 4000000 in
set_option maxRecDepth 100000 in
/-- Division.isNothingLeft() -/
theorem c1_isNothingLeft (l : Launch) (K : Cxt) (E0 : Nat → va_E) (z0 : Nat → Wh) (sz dv rs bs : Nat)  {ln fl : Nat} {Fo Go : Nat → Nat} (hdv : dv_at K E0 dv rs bs ln fl Fo Go) (hF : ∀ k, k < 25 → Fo k < 4294967296) (hfl : fl ≤ 25) : Met l yX1_isNothingLeft wsX1_isNothingLeft ({ frames := 0, cells := 0, slots := 0, locals := 0 }) (va_Pc [.ref dv] (bd_P K E0 z0 sz)) (va_Qi (fun r u => r = nI (if q_s Fo fl = 0 then 1 else 0) ∧ u = (E0, z0)) (bd_B K) (bd_A K sz)) 0 0 (bd_A K sz) := by
  refine bd_ofW (cc := cX1_isNothingLeft) (maxL := 2) (ret := (some .boolean)) (by decide) rfl (Nat.le_of_ble_eq_true rfl) ?_
  intro p e s m below meth c ls C hr hlk hsz hw hl
  have hx := C.1
  have hb := C.2.1
  have hown := C.2.2.2.1
  have hts := C.2.2.2.2.1
  have i1d : ∀ w ∈ wsX10, w ∈ wsX1_isNothingLeft := by decide +kernel
  have lk32 : Cond.fieldLink RX1 32 "BallDesk$Division" "filled" "I" ∈ wsX1_isNothingLeft := by decide +kernel
  have lk9 : Cond.fieldLink RX1 9 "BallDesk$Division" "rest" "[J" ∈ wsX1_isNothingLeft := by decide +kernel
  have hoe : dv_fr dv rs bs E0 E0 := dv_rf
  have hl : lv_has ls 2 [(0, .ref dv)] := hl
  refine lv_iconst (v := nI 0) hx hb dX1_isNothingLeft_0 (by decide) ?_
  refine lv_istore_n (lv' := [(1, .int (nI 0)), (0, .ref dv)]) hx hb dX1_isNothingLeft_1 rfl hl (by decide) rfl (fun ls hl => ?_)
  suffices hloop : ∀ (d i : Nat) (ls : Array Slot) (H : Heap) (locs : List Loc), i + d = fl → (∀ j, j < i → Fo j = 0) → lv_has ls 2 [(1, .int (nI i)), (0, .ref dv)] → bd_W K E0 z0 (bd_A K sz) s.heap H locs → W p l e (headSpec wsX1_isNothingLeft ({ frames := 0, cells := 0, slots := 0, locals := 0 })).room s m [.ref dv].toArray below meth c H locs 0 0 (MQ below (va_Qi (fun r u => r = nI (if q_s Fo fl = 0 then 1 else 0) ∧ u = (E0, z0)) (bd_B K) (bd_A K sz)) [.ref dv].toArray s 0 0 (bd_A K sz)) (F0 m 2 ls []) from hloop fl 0 ls _ _ (by omega) (fun j hj => absurd hj (by omega)) (lv_sub hl [0, 1] rfl) hw
  clear hw hl ls
  intro d
  induction d using Nat.strongRecOn with
  | ind d ih =>
    intro i ls H locs hid h0 hl hw
    refine lv_iload_n hx hb dX1_isNothingLeft_2 rfl (lv_at hl 0 rfl) ?_
    refine lv_aload_n hx hb dX1_isNothingLeft_3 rfl (lv_at hl 1 rfl) ?_
    refine dv_gfl C i1d hw hdv dX1_isNothingLeft_4 lk32 ?_
    refine bd_ige (h1 := (by omega)) (h2 := (by omega)) (tgt := 29) hx hb dX1_isNothingLeft_7 (by decide) (fun hc7 => ?_) (fun hc7 => ?_)
    · refine lv_iconst (v := nI 1) hx hb dX1_isNothingLeft_29 (by decide) ?_
      exact bd_zret C hr hlk hw dX1_isNothingLeft_30 (Or.inr rfl) ⟨by rw [if_pos (q_zz (fun j hj => h0 j (by omega)))], rfl⟩
    · refine lv_aload_n hx hb dX1_isNothingLeft_10 rfl (lv_at hl 1 rfl) ?_
      refine dv_grs C i1d hw hdv dX1_isNothingLeft_11 lk9 ?_
      refine lv_iload_n hx hb dX1_isNothingLeft_14 rfl (lv_at hl 0 rfl) ?_
      refine dv_ldR C hw hdv dX1_isNothingLeft_15 (by omega) ?_
      refine lv_lconst (v := lN 0) hx hb dX1_isNothingLeft_16 rfl ?_
      refine bd_leq (h1 := (Nat.lt_trans (hF _ (by omega)) (by decide))) (h2 := (by decide)) (tgt := 23) hx hb dX1_isNothingLeft_17 dX1_isNothingLeft_18 (by decide) (fun hc17 => ?_) (fun hc17 => ?_)
      · refine lv_iinc (v := (nI (i + 1))) (lv' := [(1, .int (nI (i + 1))), (0, .ref dv)]) hx hb dX1_isNothingLeft_23 hl (k := 0) rfl (nI_1 _) (by decide) rfl (fun ls hl => ?_)
        refine lv_goto (tgt := 2) hx hb dX1_isNothingLeft_26 (by decide) ?_
        exact ih (d - 1) (by omega) (i + 1) ls H locs (by omega) (fun j hj => if q : j = i then by rw [q]; exact hc17 else h0 j (by omega)) (lv_sub hl [0, 1] rfl) hw
      · refine lv_iconst (v := nI 0) hx hb dX1_isNothingLeft_21 (by decide) ?_
        have hnz := q_nz (f := Fo) hc7 hc17
        exact bd_zret C hr hlk hw dX1_isNothingLeft_22 (Or.inl rfl) ⟨by rw [if_neg (by omega)], rfl⟩
theorem dv_up {F : Nat → Nat} {i v N : Nat} (h : ∀ k, k < N → F k < 4294967296) (hv : v < 4294967296) : ∀ k, k < N → va_up F i v k < 4294967296 := fun k hk => by
  unfold va_up
  split
  · exact hv
  · exact h k hk
set_option maxHeartbeats 4000000 in
set_option maxRecDepth 100000 in
/-- Division.addBack(j) -/
theorem c1_addBack (l : Launch) (K : Cxt) (E0 : Nat → va_E) (z0 : Nat → Wh) (sz dv rs bs : Nat) (j : Nat) {ln fl : Nat} {Fo Go : Nat → Nat} (hdv : dv_at K E0 dv rs bs ln fl Fo Go) (hF : ∀ k, k < 25 → Fo k < 4294967296) (hG : ∀ k, k < 24 → Go k < 4294967296) (hj : j + ln ≤ 24) (hln : ln ≤ 24) : Met l yX1_addBack wsX1_addBack ({ frames := 0, cells := 0, slots := 0, locals := 0 }) (va_Pc [.ref dv, .int (nI j)] (bd_P K E0 z0 sz)) (va_Qv (fun u => u.2 = z0 ∧ ∃ F1 : Nat → Nat, dv_at K u.1 dv rs bs ln fl F1 Go ∧ dv_fr dv rs bs E0 u.1 ∧ (∀ k, k < 25 → F1 k < 4294967296) ∧ (∀ k, (k < j ∨ j + ln < k) → F1 k = Fo k) ∧ q_s (fun k => F1 (j + k)) (ln + 1) = (q_s (fun k => Fo (j + k)) (ln + 1) + q_s Go ln) % 4294967296 ^ (ln + 1)) (bd_B K) (bd_A K sz)) 0 0 (bd_A K sz) := by
  refine bd_ofW (cc := cX1_addBack) (maxL := 7) (ret := none) (by decide) rfl (Nat.le_of_ble_eq_true rfl) ?_
  intro p e s m below meth c ls C hr hlk hsz hw hl
  have hx := C.1
  have hb := C.2.1
  have hown := C.2.2.2.1
  have hts := C.2.2.2.2.1
  have i1d : ∀ w ∈ wsX10, w ∈ wsX1_addBack := by decide +kernel
  have lk28 : Cond.fieldLink RX1 28 "BallDesk$Division" "length" "I" ∈ wsX1_addBack := by decide +kernel
  have lk9 : Cond.fieldLink RX1 9 "BallDesk$Division" "rest" "[J" ∈ wsX1_addBack := by decide +kernel
  have lk78 : Cond.constantLong RX1 78 (4294967295) ∈ wsX1_addBack := by decide +kernel
  have lk15 : Cond.fieldLink RX1 15 "BallDesk$Division" "by" "[J" ∈ wsX1_addBack := by decide +kernel
  have hoe : dv_fr dv rs bs E0 E0 := dv_rf
  have hl : lv_has ls 7 [(0, .ref dv), (1, .int (nI j))] := hl
  refine lv_lconst (v := lN 0) hx hb dX1_addBack_0 rfl ?_
  refine lv_lstore_n (lv' := [(2, .long (lN 0)), (0, .ref dv), (1, .int (nI j))]) hx hb dX1_addBack_1 rfl hl (by decide) rfl (fun ls hl => ?_)
  refine lv_iconst (v := nI 0) hx hb dX1_addBack_2 (by decide) ?_
  refine lv_istore (lv' := [(4, .int (nI 0)), (2, .long (lN 0)), (0, .ref dv), (1, .int (nI j))]) hx hb dX1_addBack_3 hl (by decide) rfl (fun ls hl => ?_)
  suffices hloop : ∀ (d i cy : Nat) (E : Nat → va_E) (ls : Array Slot) (H : Heap) (locs : List Loc) (F : Nat → Nat), i + d = ln → dv_at K E dv rs bs ln fl F Go → dv_fr dv rs bs E0 E → (∀ k, k < 25 → F k < 4294967296) → (∀ k, (k < j ∨ j + i ≤ k) → F k = Fo k) → cy ≤ 1 → q_s (fun k => F (j + k)) i + cy * 4294967296 ^ i = q_s (fun k => Fo (j + k)) i + q_s Go i → lv_has ls 7 [(4, .int (nI i)), (2, .long (lN cy)), (0, .ref dv), (1, .int (nI j))] → bd_W K E z0 (bd_A K sz) s.heap H locs → W p l e (headSpec wsX1_addBack ({ frames := 0, cells := 0, slots := 0, locals := 0 })).room s m [.ref dv, .int (nI j)].toArray below meth c H locs 0 0 (MQ below (va_Qv (fun u => u.2 = z0 ∧ ∃ F1 : Nat → Nat, dv_at K u.1 dv rs bs ln fl F1 Go ∧ dv_fr dv rs bs E0 u.1 ∧ (∀ k, k < 25 → F1 k < 4294967296) ∧ (∀ k, (k < j ∨ j + ln < k) → F1 k = Fo k) ∧ q_s (fun k => F1 (j + k)) (ln + 1) = (q_s (fun k => Fo (j + k)) (ln + 1) + q_s Go ln) % 4294967296 ^ (ln + 1)) (bd_B K) (bd_A K sz)) [.ref dv, .int (nI j)].toArray s 0 0 (bd_A K sz)) (F0 m 5 ls []) from hloop ln 0 0 E0 ls _ _ Fo (by omega) hdv hoe hF (fun _ _ => rfl) (by decide) (by simp [q_s]) (lv_sub hl [0, 1, 2, 3] rfl) hw
  clear hw hl ls hdv hoe
  intro d
  induction d using Nat.strongRecOn with
  | ind d ih =>
    intro i cy E ls H locs F hid hdv hoe hFF hun hcy hv hl hw
    refine lv_iload hx hb dX1_addBack_5 (lv_at hl 0 rfl) ?_
    refine lv_aload_n hx hb dX1_addBack_7 rfl (lv_at hl 2 rfl) ?_
    refine dv_gln C i1d hw hdv dX1_addBack_8 lk28 ?_
    refine bd_ige (h1 := (by omega)) (h2 := (by omega)) (tgt := 62) hx hb dX1_addBack_11 (by decide) (fun hc11 => ?_) (fun hc11 => ?_)
    · have hi : i = ln := by omega
      subst hi
      have h1 := hFF (j + i) (by omega)
      refine lv_aload_n hx hb dX1_addBack_62 rfl (lv_at hl 2 rfl) ?_
      refine dv_grs C i1d hw hdv dX1_addBack_63 lk9 ?_
      refine lv_iload_n hx hb dX1_addBack_66 rfl (lv_at hl 3 rfl) ?_
      refine lv_aload_n hx hb dX1_addBack_67 rfl (lv_at hl 2 rfl) ?_
      refine dv_gln C i1d hw hdv dX1_addBack_68 lk28 ?_
      refine bd_iadd (v := (nI (j + i))) hx hb dX1_addBack_71 (nI_add _ _) ?_
      refine lv_aload_n hx hb dX1_addBack_72 rfl (lv_at hl 2 rfl) ?_
      refine dv_grs C i1d hw hdv dX1_addBack_73 lk9 ?_
      refine lv_iload_n hx hb dX1_addBack_76 rfl (lv_at hl 3 rfl) ?_
      refine lv_aload_n hx hb dX1_addBack_77 rfl (lv_at hl 2 rfl) ?_
      refine dv_gln C i1d hw hdv dX1_addBack_78 lk28 ?_
      refine bd_iadd (v := (nI (j + i))) hx hb dX1_addBack_81 (nI_add _ _) ?_
      refine dv_ldR C hw hdv dX1_addBack_82 (by omega) ?_
      refine lv_lload_n hx hb dX1_addBack_83 rfl (lv_at hl 1 rfl) ?_
      refine bd_ladd (v := (lN ((F (j + i)) + cy))) hx hb dX1_addBack_84 (lN_add _ _) ?_
      refine lv_ldc2 (v := lN 4294967295) hx hb hown (hts _ lk78) dX1_addBack_85 ?_
      refine bd_land (v := (lN ((F (j + i) + cy) % 4294967296))) hx hb dX1_addBack_88 (bd_m32 (by omega)) ?_
      refine dv_stR C hw hdv dX1_addBack_89 (by omega) (fun E H locs hdv hfe hw => ?_)
      have hoe := dv_tr hfe hoe
      have hlow : q_s (fun k => F (j + k)) i < 4294967296 ^ i := q_lt (fun k hk => hFF _ (by omega))
      have hsum : q_s (fun k => (va_up F (j + i) ((F (j + i) + cy) % 4294967296)) (j + k)) (i + 1) = (q_s (fun k => Fo (j + k)) (i + 1) + q_s Go i) % 4294967296 ^ (i + 1) := by
        have h3 : q_s (fun k => Fo (j + k)) (i + 1) + q_s Go i = q_s (fun k => F (j + k)) i + (F (j + i) + cy) * 4294967296 ^ i := by
          show q_s (fun k => Fo (j + k)) i + Fo (j + i) * _ + _ = _
          rw [hun (j + i) (Or.inr (by omega)), Nat.add_mul]
          omega
        rw [h3, q_modB hlow]
        show q_s (fun k => (va_up F (j + i) ((F (j + i) + cy) % 4294967296)) (j + k)) i + (va_up F (j + i) ((F (j + i) + cy) % 4294967296)) (j + i) * _ = _
        rw [va_up_self, q_cg (f := fun k => F (j + k)) (fun k hk => va_up_ne _ _ (by omega))]
      exact bd_vret C hr hlk hw dX1_addBack_90 ⟨rfl, _, hdv, hoe, dv_up hFF (Nat.mod_lt _ (by decide)), fun k hk => by rw [va_up_ne _ _ (by omega)]; exact hun k (by omega), hsum⟩
    · have h1 := hF (j + i) (by omega)
      have h2 := hG i (by omega)
      refine lv_aload_n hx hb dX1_addBack_14 rfl (lv_at hl 2 rfl) ?_
      refine dv_grs C i1d hw hdv dX1_addBack_15 lk9 ?_
      refine lv_iload hx hb dX1_addBack_18 (lv_at hl 0 rfl) ?_
      refine lv_iload_n hx hb dX1_addBack_20 rfl (lv_at hl 3 rfl) ?_
      refine bd_iadd (v := (nI (i + j))) hx hb dX1_addBack_21 (nI_add _ _) ?_
      refine dv_ldR C hw hdv dX1_addBack_22 (by omega) ?_
      refine lv_aload_n hx hb dX1_addBack_23 rfl (lv_at hl 2 rfl) ?_
      refine dv_gbs C i1d hw hdv dX1_addBack_24 lk15 ?_
      refine lv_iload hx hb dX1_addBack_27 (lv_at hl 0 rfl) ?_
      refine dv_ldB C hw hdv dX1_addBack_29 (by omega) ?_
      refine bd_ladd (v := (lN (Fo (j + i) + Go i))) hx hb dX1_addBack_30 ((lN_add _ _).trans (by rw [show i + j = j + i from Nat.add_comm i j, hun (j + i) (Or.inr (by omega))])) ?_
      refine lv_lload_n hx hb dX1_addBack_31 rfl (lv_at hl 1 rfl) ?_
      refine bd_ladd (v := (lN (Fo (j + i) + Go i + cy))) hx hb dX1_addBack_32 (lN_add _ _) ?_
      refine lv_lstore (lv' := [(5, .long (lN (Fo (j + i) + Go i + cy))), (4, .int (nI i)), (2, .long (lN cy)), (0, .ref dv), (1, .int (nI j))]) hx hb dX1_addBack_33 hl (by decide) rfl (fun ls hl => ?_)
      refine lv_aload_n hx hb dX1_addBack_35 rfl (lv_at hl 3 rfl) ?_
      refine dv_grs C i1d hw hdv dX1_addBack_36 lk9 ?_
      refine lv_iload hx hb dX1_addBack_39 (lv_at hl 1 rfl) ?_
      refine lv_iload_n hx hb dX1_addBack_41 rfl (lv_at hl 4 rfl) ?_
      refine bd_iadd (v := (nI (i + j))) hx hb dX1_addBack_42 (nI_add _ _) ?_
      refine lv_lload hx hb dX1_addBack_43 (lv_at hl 0 rfl) ?_
      refine lv_ldc2 (v := lN 4294967295) hx hb hown (hts _ lk78) dX1_addBack_45 ?_
      refine bd_land (v := (lN ((Fo (j + i) + Go i + cy) % 4294967296))) hx hb dX1_addBack_48 (bd_m32 (by omega)) ?_
      refine dv_stR C hw hdv dX1_addBack_49 (by omega) (fun E H locs hdv hfe hw => ?_)
      have hoe := dv_tr hfe hoe
      refine lv_lload hx hb dX1_addBack_50 (lv_at hl 0 rfl) ?_
      refine lv_bipush (v := nI 32) hx hb dX1_addBack_52 (by decide) ?_
      refine bd_lushr (v := (lN ((Fo (j + i) + Go i + cy) / 4294967296))) hx hb dX1_addBack_54 (bd_s32 (by omega)) ?_
      refine lv_lstore_n (lv' := [(2, .long (lN ((Fo (j + i) + Go i + cy) / 4294967296))), (5, .long (lN (Fo (j + i) + Go i + cy))), (4, .int (nI i)), (0, .ref dv), (1, .int (nI j))]) hx hb dX1_addBack_55 rfl hl (by decide) rfl (fun ls hl => ?_)
      refine lv_iinc (v := (nI (i + 1))) (lv' := [(4, .int (nI (i + 1))), (2, .long (lN ((Fo (j + i) + Go i + cy) / 4294967296))), (5, .long (lN (Fo (j + i) + Go i + cy))), (0, .ref dv), (1, .int (nI j))]) hx hb dX1_addBack_56 hl (k := 2) rfl (nI_1 _) (by decide) rfl (fun ls hl => ?_)
      refine lv_goto (tgt := 5) hx hb dX1_addBack_59 (by decide) ?_
      exact ih (d - 1) (by omega) (i + 1) ((Fo (j + i) + Go i + cy) / 4294967296) E ls H locs _ (by omega) hdv hoe (dv_up hFF (Nat.mod_lt _ (by decide))) (fun k hk => by rw [va_up_ne _ _ (by omega)]; exact hun k (by omega)) (by omega) (q_add (x := (fun k => Fo (j + k))) (by rw [q_cg (f := fun k => F (j + k)) (fun k hk => va_up_ne _ _ (by omega))]; exact hv) (by show va_up F (i + j) _ (j + i) + _ = _; rw [show j + i = i + j from Nat.add_comm j i, va_up_self]; omega)) (lv_sub hl [0, 1, 3, 4] rfl) hw
