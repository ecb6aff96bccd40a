/-! the model: at, none, settle, copy (laid by wip/gen/m_mod1.py) -/
theorem up_s {f1 : Nat → Nat} {i x : Nat} {T : Nat → Nat → Prop} (h : ∀ j, j < i → T j (f1 j)) (hx : T i x) : ∀ j, j < i + 1 → T j (va_up f1 i x j) := fun j hj => by
  rcases Nat.lt_or_ge j i with q | q
  · rw [va_up_ne _ _ (by omega)]
    exact h j q
  · rw [show j = i by omega, va_up_self]
    exact hx
theorem up_g {f1 g : Nat → Nat} {i x : Nat} (h : ∀ j, i ≤ j → f1 j = g j) : ∀ j, i + 1 ≤ j → va_up f1 i x j = g j := fun j hj => by
  rw [va_up_ne _ _ (by omega)]
  exact h j (by omega)
set_option maxHeartbeats 4000000 in
set_option maxRecDepth 100000 in
/-- at(r, k) -/
theorem m5_at (l : Launch) (K : Cxt) (E0 : Nat → va_E) (z0 : Nat → Wh) (sz : Nat) {mo : Nat → Nat} {th : Int32} {P : Nat} {Fo : Nat → Nat → Nat} {Go : Nat → Int32} {So Ro : Nat → Nat} (hm : md_at K E0 mo th P Fo Go So Ro) (r k : Nat) (hr60 : r < 60) (hk34 : k < 34) : Met l yX5_at wsX5_at ({ frames := 0, cells := 0, slots := 0, locals := 0 }) (va_Pc [.ref (mo 0), .int (nI r), .int (nI k)] (bd_P K E0 z0 sz)) (va_Qi (fun v u => v = nI (Fo r k) ∧ u = (E0, z0)) (bd_B K) (bd_A K sz)) 0 0 (bd_A K sz) := by
  refine bd_ofW (cc := cX5_at) (maxL := 3) (ret := (some .int)) (by decide) rfl (Nat.le_of_ble_eq_true rfl) ?_
  intro p e s m below meth c ls C hr hlk hsz hw hl
  have hx := C.1
  have hb := C.2.1
  have hown := C.2.2.2.1
  have hts := C.2.2.2.2.1
  have i5 : ∀ w ∈ wsX50, w ∈ wsX5_at := by decide +kernel
  have lk7 : Cond.fieldLink RX5 7 "BallDeskModel" "limbs" "[I" ∈ wsX5_at := by decide +kernel
  have hl : lv_has ls 3 [(0, .ref (mo 0)), (1, .int (nI r)), (2, .int (nI k))] := hl
  obtain ⟨hP1, hP2⟩ := md_P hm
  refine lv_aload_n hx hb dX5_at_0 rfl (lv_at hl 0 rfl) ?_
  refine md_g C i5 hw hm 3 (by decide) (v := .ref (mo 1)) rfl dX5_at_1 lk7 ?_
  refine lv_bipush (v := nI 34) hx hb dX5_at_4 (by decide) ?_
  refine lv_iload_n hx hb dX5_at_6 rfl (lv_at hl 1 rfl) ?_
  refine bd_imul (v := nI (34 * r)) hx hb dX5_at_7 (nI_mul _ _) ?_
  refine lv_iload_n hx hb dX5_at_8 rfl (lv_at hl 2 rfl) ?_
  refine bd_iadd (v := nI (34 * r + k)) hx hb dX5_at_9 (nI_add _ _) ?_
  refine md_ld1 C hw hm (r := r) (k := k) dX5_at_10 (by omega) (by omega) ?_
  exact bd_iret C hr hlk hw dX5_at_11 (⟨rfl, rfl⟩)
set_option maxHeartbeats 4000000 in
set_option maxRecDepth 100000 in
/-- none(r) -/
theorem m5_none (l : Launch) (K : Cxt) (E0 : Nat → va_E) (z0 : Nat → Wh) (sz : Nat) {mo : Nat → Nat} {th : Int32} {P : Nat} {Fo : Nat → Nat → Nat} {Go : Nat → Int32} {So Ro : Nat → Nat} (hm : md_at K E0 mo th P Fo Go So Ro) (r : Nat) (hr60 : r < 60) : Met l yX5_none wsX5_none ({ frames := 0, cells := 0, slots := 0, locals := 0 }) (va_Pc [.ref (mo 0), .int (nI r)] (bd_P K E0 z0 sz)) (va_Qv (fun u => ∃ f1 : Nat → Nat, (∀ j, j < 34 → f1 j = 0) ∧ md_at K u.1 mo th P (va_up Fo r f1) (va_up Go r 0) So Ro) (bd_B K) (bd_A K sz)) 0 0 (bd_A K sz) := by
  refine bd_ofW (cc := cX5_none) (maxL := 3) (ret := none) (by decide) rfl (Nat.le_of_ble_eq_true rfl) ?_
  intro p e s m below meth c ls C hr hlk hsz hw hl
  have hx := C.1
  have hb := C.2.1
  have hown := C.2.2.2.1
  have hts := C.2.2.2.2.1
  have i5 : ∀ w ∈ wsX50, w ∈ wsX5_none := by decide +kernel
  have lk13 : Cond.fieldLink RX5 13 "BallDeskModel" "signs" "[I" ∈ wsX5_none := by decide +kernel
  have lk7 : Cond.fieldLink RX5 7 "BallDeskModel" "limbs" "[I" ∈ wsX5_none := by decide +kernel
  have hl : lv_has ls 3 [(0, .ref (mo 0)), (1, .int (nI r))] := hl
  obtain ⟨hP1, hP2⟩ := md_P hm
  refine lv_iconst (v := nI 0) hx hb dX5_none_0 (by decide) ?_
  refine lv_istore_n (lv' := [(2, .int (nI 0)), (0, .ref (mo 0)), (1, .int (nI r))]) hx hb dX5_none_1 rfl hl (by decide) rfl (fun ls hl => ?_)
  suffices hloop : ∀ (d9 i : Nat) (f1 : Nat → Nat) (E : Nat → va_E) (ls : Array Slot) (H : Heap) (locs : List Loc), i + d9 = 34 → md_at K E mo th P (va_up Fo r f1) Go So Ro → (∀ j, j < i → f1 j = 0) → lv_has ls 3 [(2, .int (nI i)), (0, .ref (mo 0)), (1, .int (nI r))] → bd_W K E z0 (bd_A K sz) s.heap H locs → W p l e (headSpec wsX5_none ({ frames := 0, cells := 0, slots := 0, locals := 0 })).room s m [.ref (mo 0), .int (nI r)].toArray below meth c H locs 0 0 (MQ below (va_Qv (fun u => ∃ f1 : Nat → Nat, (∀ j, j < 34 → f1 j = 0) ∧ md_at K u.1 mo th P (va_up Fo r f1) (va_up Go r 0) So Ro) (bd_B K) (bd_A K sz)) [.ref (mo 0), .int (nI r)].toArray s 0 0 (bd_A K sz)) (F0 m 2 ls []) from hloop 34 0 (Fo r) E0 ls _ _ (by omega) (by rw [va_upi]; exact hm) (fun j hj => absurd hj (by omega)) (lv_sub hl [0, 1, 2] rfl) hw
  clear hw hl ls hm 
  intro d9
  induction d9 using Nat.strongRecOn with
  | ind d9 ih =>
    intro i f1 E ls H locs hjd hm hf hl hw
    refine lv_iload_n hx hb dX5_none_2 rfl (lv_at hl 0 rfl) ?_
    refine lv_bipush (v := nI 34) hx hb dX5_none_3 (by decide) ?_
    refine bd_ige (h1 := (by omega)) (h2 := (by omega)) (tgt := 26) hx hb dX5_none_5 (by decide) (fun hc5 => ?_) (fun hc5 => ?_)
    · refine lv_aload_n hx hb dX5_none_26 rfl (lv_at hl 1 rfl) ?_
      refine md_g C i5 hw hm 4 (by decide) (v := .ref (mo 2)) rfl dX5_none_27 lk13 ?_
      refine lv_iload_n hx hb dX5_none_30 rfl (lv_at hl 2 rfl) ?_
      refine lv_iconst (v := nI 0) hx hb dX5_none_31 (by decide) ?_
      refine md_st2 C hw hm (r := r) (x := (nI 0)) dX5_none_32 (by omega) (fun E H locs hm hw => ?_)
      exact bd_vret C hr hlk hw dX5_none_33 (⟨f1, fun j hj => hf j (by omega), hm⟩)
    · refine lv_aload_n hx hb dX5_none_8 rfl (lv_at hl 1 rfl) ?_
      refine md_g C i5 hw hm 3 (by decide) (v := .ref (mo 1)) rfl dX5_none_9 lk7 ?_
      refine lv_bipush (v := nI 34) hx hb dX5_none_12 (by decide) ?_
      refine lv_iload_n hx hb dX5_none_14 rfl (lv_at hl 2 rfl) ?_
      refine bd_imul (v := nI (34 * r)) hx hb dX5_none_15 (nI_mul _ _) ?_
      refine lv_iload_n hx hb dX5_none_16 rfl (lv_at hl 0 rfl) ?_
      refine bd_iadd (v := nI (34 * r + i)) hx hb dX5_none_17 (nI_add _ _) ?_
      refine lv_iconst (v := nI 0) hx hb dX5_none_18 (by decide) ?_
      refine md_st1u C hw (r := r) (k := i) (x := 0) hm dX5_none_19 (by omega) (by omega) (fun E H locs hm hw => ?_)
      refine lv_iinc (v := (nI (i + 1))) (lv' := [(2, .int (nI (i + 1))), (0, .ref (mo 0)), (1, .int (nI r))]) hx hb dX5_none_20 hl (k := 0) rfl (nI_1 _) (by decide) rfl (fun ls hl => ?_)
      refine lv_goto (tgt := 2) hx hb dX5_none_23 (by decide) ?_
      exact ih (d9 - 1) (by omega) (i + 1) _ E ls H locs (by omega) hm (up_s (T := fun _ y => y = 0) hf rfl) (lv_sub hl [0, 1, 2] rfl) hw
set_option maxHeartbeats 4000000 in
set_option maxRecDepth 100000 in
/-- settle(r, sg) -/
theorem m5_settle (l : Launch) (K : Cxt) (E0 : Nat → va_E) (z0 : Nat → Wh) (sz : Nat) {mo : Nat → Nat} {th : Int32} {P : Nat} {Fo : Nat → Nat → Nat} {Go : Nat → Int32} {So Ro : Nat → Nat} (hm : md_at K E0 mo th P Fo Go So Ro) (r : Nat) (sg : Int32) (hr60 : r < 60) (hF : ∀ j, j < 34 → Fo r j < 16777216) : Met l yX5_settle wsX5_settle ({ frames := 0, cells := 0, slots := 0, locals := 0 }) (va_Pc [.ref (mo 0), .int (nI r), .int sg] (bd_P K E0 z0 sz)) (va_Qv (fun u => md_at K u.1 mo th P Fo (va_up Go r (if h_s (Fo r) 34 = 0 then 0 else sg)) So Ro) (bd_B K) (bd_A K sz)) 0 0 (bd_A K sz) := by
  refine bd_ofW (cc := cX5_settle) (maxL := 5) (ret := none) (by decide) rfl (Nat.le_of_ble_eq_true rfl) ?_
  intro p e s m below meth c ls C hr hlk hsz hw hl
  have hx := C.1
  have hb := C.2.1
  have hown := C.2.2.2.1
  have hts := C.2.2.2.2.1
  have i5 : ∀ w ∈ wsX50, w ∈ wsX5_settle := by decide +kernel
  have lk13 : Cond.fieldLink RX5 13 "BallDeskModel" "signs" "[I" ∈ wsX5_settle := by decide +kernel
  have lk7 : Cond.fieldLink RX5 7 "BallDeskModel" "limbs" "[I" ∈ wsX5_settle := by decide +kernel
  have hl : lv_has ls 5 [(0, .ref (mo 0)), (1, .int (nI r)), (2, .int sg)] := hl
  obtain ⟨hP1, hP2⟩ := md_P hm
  refine lv_iconst (v := nI 0) hx hb dX5_settle_0 (by decide) ?_
  refine lv_istore_n (lv' := [(3, .int (nI 0)), (0, .ref (mo 0)), (1, .int (nI r)), (2, .int sg)]) hx hb dX5_settle_1 rfl hl (by decide) rfl (fun ls hl => ?_)
  refine lv_iconst (v := nI 0) hx hb dX5_settle_2 (by decide) ?_
  refine lv_istore (lv' := [(4, .int (nI 0)), (3, .int (nI 0)), (0, .ref (mo 0)), (1, .int (nI r)), (2, .int sg)]) hx hb dX5_settle_3 hl (by decide) rfl (fun ls hl => ?_)
  suffices hloop : ∀ (d9 i : Nat) (q : Nat) (E : Nat → va_E) (ls : Array Slot) (H : Heap) (locs : List Loc), i + d9 = 34 → md_at K E mo th P Fo Go So Ro → (q ≤ 1) → ((q = 0 ∧ ∀ j, j < i → Fo r j = 0) ∨ (q = 1 ∧ ∃ j, j < i ∧ Fo r j ≠ 0)) → lv_has ls 5 [(4, .int (nI i)), (3, .int (nI q)), (0, .ref (mo 0)), (1, .int (nI r)), (2, .int sg)] → bd_W K E z0 (bd_A K sz) s.heap H locs → W p l e (headSpec wsX5_settle ({ frames := 0, cells := 0, slots := 0, locals := 0 })).room s m [.ref (mo 0), .int (nI r), .int sg].toArray below meth c H locs 0 0 (MQ below (va_Qv (fun u => md_at K u.1 mo th P Fo (va_up Go r (if h_s (Fo r) 34 = 0 then 0 else sg)) So Ro) (bd_B K) (bd_A K sz)) [.ref (mo 0), .int (nI r), .int sg].toArray s 0 0 (bd_A K sz)) (F0 m 5 ls []) from hloop 34 0 0 E0 ls _ _ (by omega) hm (by decide) (Or.inl ⟨rfl, fun j hj => absurd hj (by omega)⟩) (lv_sub hl [0, 1, 2, 3, 4] rfl) hw
  clear hw hl ls hm 
  intro d9
  induction d9 using Nat.strongRecOn with
  | ind d9 ih =>
    intro i q E ls H locs hjd hm hq1 hq hl hw
    refine lv_iload hx hb dX5_settle_5 (lv_at hl 0 rfl) ?_
    refine lv_bipush (v := nI 34) hx hb dX5_settle_7 (by decide) ?_
    refine bd_ige (h1 := (by omega)) (h2 := (by omega)) (tgt := 43) hx hb dX5_settle_9 (by decide) (fun hc9 => ?_) (fun hc9 => ?_)
    · refine lv_aload_n hx hb dX5_settle_43 rfl (lv_at hl 2 rfl) ?_
      refine md_g C i5 hw hm 4 (by decide) (v := .ref (mo 2)) rfl dX5_settle_44 lk13 ?_
      refine lv_iload_n hx hb dX5_settle_47 rfl (lv_at hl 3 rfl) ?_
      refine lv_iload_n hx hb dX5_settle_48 rfl (lv_at hl 1 rfl) ?_
      refine bd_zeq (h1 := (by omega)) (tgt := 56) hx hb dX5_settle_49 (by decide) (fun hc49 => ?_) (fun hc49 => ?_)
      · refine lv_iconst (v := nI 0) hx hb dX5_settle_56 (by decide) ?_
        refine md_st2 C hw hm (r := r) (x := (nI 0)) dX5_settle_57 (by omega) (fun E H locs hm hw => ?_)
        exact bd_vret C hr hlk hw dX5_settle_58 (by rw [if_pos (h_z.mpr (hq.elim (fun g j hj => g.2 j (by omega)) (fun g => absurd g.1 (by omega))))]; exact hm)
      · refine lv_iload_n hx hb dX5_settle_52 rfl (lv_at hl 4 rfl) ?_
        refine lv_goto (tgt := 57) hx hb dX5_settle_53 (by decide) ?_
        refine md_st2 C hw hm (r := r) (x := sg) dX5_settle_57 (by omega) (fun E H locs hm hw => ?_)
        exact bd_vret C hr hlk hw dX5_settle_58 (by rw [if_neg (fun hh => hq.elim (fun g => absurd g.1 (by omega)) (fun g => g.2.elim (fun j hj => hj.2 (h_z.mp hh j (by omega)))))]; exact hm)
    · refine lv_iload_n hx hb dX5_settle_12 rfl (lv_at hl 1 rfl) ?_
      refine bd_zne (h1 := (by omega)) (tgt := 31) hx hb dX5_settle_13 (by decide) (fun hc13 => ?_) (fun hc13 => ?_)
      · refine lv_iconst (v := nI 1) hx hb dX5_settle_31 (by decide) ?_
        refine lv_goto (tgt := 36) hx hb dX5_settle_32 (by decide) ?_
        refine lv_istore_n (lv' := [(3, .int (nI 1)), (4, .int (nI i)), (0, .ref (mo 0)), (1, .int (nI r)), (2, .int sg)]) hx hb dX5_settle_36 rfl hl (by decide) rfl (fun ls hl => ?_)
        refine lv_iinc (v := (nI (i + 1))) (lv' := [(4, .int (nI (i + 1))), (3, .int (nI 1)), (0, .ref (mo 0)), (1, .int (nI r)), (2, .int sg)]) hx hb dX5_settle_37 hl (k := 1) rfl (nI_1 _) (by decide) rfl (fun ls hl => ?_)
        refine lv_goto (tgt := 5) hx hb dX5_settle_40 (by decide) ?_
        exact ih (d9 - 1) (by omega) (i + 1) 1 E ls H locs (by omega) hm (by decide) (Or.inr ⟨rfl, hq.elim (fun h => absurd h.1 (by omega)) (fun h => h.2.elim (fun j hj => ⟨j, by omega, hj.2⟩))⟩) (lv_sub hl [0, 1, 2, 3, 4] rfl) hw
      · refine lv_aload_n hx hb dX5_settle_16 rfl (lv_at hl 2 rfl) ?_
        refine md_g C i5 hw hm 3 (by decide) (v := .ref (mo 1)) rfl dX5_settle_17 lk7 ?_
        refine lv_bipush (v := nI 34) hx hb dX5_settle_20 (by decide) ?_
        refine lv_iload_n hx hb dX5_settle_22 rfl (lv_at hl 3 rfl) ?_
        refine bd_imul (v := nI (34 * r)) hx hb dX5_settle_23 (nI_mul _ _) ?_
        refine lv_iload hx hb dX5_settle_24 (lv_at hl 0 rfl) ?_
        refine bd_iadd (v := nI (34 * r + i)) hx hb dX5_settle_26 (nI_add _ _) ?_
        refine md_ld1 C hw hm (r := r) (k := i) dX5_settle_27 (by omega) (by omega) ?_
        refine bd_zeq (h1 := (Nat.lt_of_lt_of_le (hF i (by omega)) (by decide))) (tgt := 35) hx hb dX5_settle_28 (by decide) (fun hc28 => ?_) (fun hc28 => ?_)
        · refine lv_iconst (v := nI 0) hx hb dX5_settle_35 (by decide) ?_
          refine lv_istore_n (lv' := [(3, .int (nI 0)), (4, .int (nI i)), (0, .ref (mo 0)), (1, .int (nI r)), (2, .int sg)]) hx hb dX5_settle_36 rfl hl (by decide) rfl (fun ls hl => ?_)
          refine lv_iinc (v := (nI (i + 1))) (lv' := [(4, .int (nI (i + 1))), (3, .int (nI 0)), (0, .ref (mo 0)), (1, .int (nI r)), (2, .int sg)]) hx hb dX5_settle_37 hl (k := 1) rfl (nI_1 _) (by decide) rfl (fun ls hl => ?_)
          refine lv_goto (tgt := 5) hx hb dX5_settle_40 (by decide) ?_
          exact ih (d9 - 1) (by omega) (i + 1) 0 E ls H locs (by omega) hm (by decide) (Or.inl ⟨rfl, fun j hj => (Nat.lt_or_ge j i).elim (fun h => hq.elim (fun g => g.2 j h) (fun g => absurd g.1 (by omega))) (fun h => by rw [show j = i by omega]; exact hc28)⟩) (lv_sub hl [0, 1, 2, 3, 4] rfl) hw
        · refine lv_iconst (v := nI 1) hx hb dX5_settle_31 (by decide) ?_
          refine lv_goto (tgt := 36) hx hb dX5_settle_32 (by decide) ?_
          refine lv_istore_n (lv' := [(3, .int (nI 1)), (4, .int (nI i)), (0, .ref (mo 0)), (1, .int (nI r)), (2, .int sg)]) hx hb dX5_settle_36 rfl hl (by decide) rfl (fun ls hl => ?_)
          refine lv_iinc (v := (nI (i + 1))) (lv' := [(4, .int (nI (i + 1))), (3, .int (nI 1)), (0, .ref (mo 0)), (1, .int (nI r)), (2, .int sg)]) hx hb dX5_settle_37 hl (k := 1) rfl (nI_1 _) (by decide) rfl (fun ls hl => ?_)
          refine lv_goto (tgt := 5) hx hb dX5_settle_40 (by decide) ?_
          exact ih (d9 - 1) (by omega) (i + 1) 1 E ls H locs (by omega) hm (by decide) (Or.inr ⟨rfl, i, by omega, by omega⟩) (lv_sub hl [0, 1, 2, 3, 4] rfl) hw
set_option maxHeartbeats 4000000 in
set_option maxRecDepth 100000 in
/-- copy(t, r) -/
theorem m5_copy (l : Launch) (K : Cxt) (E0 : Nat → va_E) (z0 : Nat → Wh) (sz : Nat) {mo : Nat → Nat} {th : Int32} {P : Nat} {Fo : Nat → Nat → Nat} {Go : Nat → Int32} {So Ro : Nat → Nat} (hm : md_at K E0 mo th P Fo Go So Ro) (t r : Nat) (ht60 : t < 60) (hr60 : r < 60) : Met l yX5_copy wsX5_copy ({ frames := 0, cells := 0, slots := 0, locals := 0 }) (va_Pc [.ref (mo 0), .int (nI t), .int (nI r)] (bd_P K E0 z0 sz)) (va_Qv (fun u => ∃ f1 : Nat → Nat, (∀ j, j < 34 → f1 j = Fo r j) ∧ md_at K u.1 mo th P (va_up Fo t f1) (va_up Go t (Go r)) So Ro) (bd_B K) (bd_A K sz)) 0 0 (bd_A K sz) := by
  refine bd_ofW (cc := cX5_copy) (maxL := 4) (ret := none) (by decide) rfl (Nat.le_of_ble_eq_true rfl) ?_
  intro p e s m below meth c ls C hr hlk hsz hw hl
  have hx := C.1
  have hb := C.2.1
  have hown := C.2.2.2.1
  have hts := C.2.2.2.2.1
  have i5 : ∀ w ∈ wsX50, w ∈ wsX5_copy := by decide +kernel
  have lk13 : Cond.fieldLink RX5 13 "BallDeskModel" "signs" "[I" ∈ wsX5_copy := by decide +kernel
  have lk7 : Cond.fieldLink RX5 7 "BallDeskModel" "limbs" "[I" ∈ wsX5_copy := by decide +kernel
  have hl : lv_has ls 4 [(0, .ref (mo 0)), (1, .int (nI t)), (2, .int (nI r))] := hl
  obtain ⟨hP1, hP2⟩ := md_P hm
  refine lv_iconst (v := nI 0) hx hb dX5_copy_0 (by decide) ?_
  refine lv_istore_n (lv' := [(3, .int (nI 0)), (0, .ref (mo 0)), (1, .int (nI t)), (2, .int (nI r))]) hx hb dX5_copy_1 rfl hl (by decide) rfl (fun ls hl => ?_)
  suffices hloop : ∀ (d9 i : Nat) (f1 : Nat → Nat) (E : Nat → va_E) (ls : Array Slot) (H : Heap) (locs : List Loc), i + d9 = 34 → md_at K E mo th P (va_up Fo t f1) Go So Ro → (∀ j, j < i → f1 j = Fo r j) → (∀ j, i ≤ j → f1 j = Fo t j) → lv_has ls 4 [(3, .int (nI i)), (0, .ref (mo 0)), (1, .int (nI t)), (2, .int (nI r))] → bd_W K E z0 (bd_A K sz) s.heap H locs → W p l e (headSpec wsX5_copy ({ frames := 0, cells := 0, slots := 0, locals := 0 })).room s m [.ref (mo 0), .int (nI t), .int (nI r)].toArray below meth c H locs 0 0 (MQ below (va_Qv (fun u => ∃ f1 : Nat → Nat, (∀ j, j < 34 → f1 j = Fo r j) ∧ md_at K u.1 mo th P (va_up Fo t f1) (va_up Go t (Go r)) So Ro) (bd_B K) (bd_A K sz)) [.ref (mo 0), .int (nI t), .int (nI r)].toArray s 0 0 (bd_A K sz)) (F0 m 2 ls []) from hloop 34 0 (Fo t) E0 ls _ _ (by omega) (by rw [va_upi]; exact hm) (fun j hj => absurd hj (by omega)) (fun _ _ => rfl) (lv_sub hl [0, 1, 2, 3] rfl) hw
  clear hw hl ls hm 
  intro d9
  induction d9 using Nat.strongRecOn with
  | ind d9 ih =>
    intro i f1 E ls H locs hjd hm hf hg hl hw
    refine lv_iload_n hx hb dX5_copy_2 rfl (lv_at hl 0 rfl) ?_
    refine lv_bipush (v := nI 34) hx hb dX5_copy_3 (by decide) ?_
    refine bd_ige (h1 := (by omega)) (h2 := (by omega)) (tgt := 36) hx hb dX5_copy_5 (by decide) (fun hc5 => ?_) (fun hc5 => ?_)
    · refine lv_aload_n hx hb dX5_copy_36 rfl (lv_at hl 1 rfl) ?_
      refine md_g C i5 hw hm 4 (by decide) (v := .ref (mo 2)) rfl dX5_copy_37 lk13 ?_
      refine lv_iload_n hx hb dX5_copy_40 rfl (lv_at hl 2 rfl) ?_
      refine lv_aload_n hx hb dX5_copy_41 rfl (lv_at hl 1 rfl) ?_
      refine md_g C i5 hw hm 4 (by decide) (v := .ref (mo 2)) rfl dX5_copy_42 lk13 ?_
      refine lv_iload_n hx hb dX5_copy_45 rfl (lv_at hl 3 rfl) ?_
      refine md_ld2 C hw hm dX5_copy_46 (by omega) ?_
      refine md_st2 C hw hm (r := t) (x := (Go r)) dX5_copy_47 (by omega) (fun E H locs hm hw => ?_)
      exact bd_vret C hr hlk hw dX5_copy_48 (⟨f1, fun j hj => hf j (by omega), hm⟩)
    · refine lv_aload_n hx hb dX5_copy_8 rfl (lv_at hl 1 rfl) ?_
      refine md_g C i5 hw hm 3 (by decide) (v := .ref (mo 1)) rfl dX5_copy_9 lk7 ?_
      refine lv_bipush (v := nI 34) hx hb dX5_copy_12 (by decide) ?_
      refine lv_iload_n hx hb dX5_copy_14 rfl (lv_at hl 2 rfl) ?_
      refine bd_imul (v := nI (34 * t)) hx hb dX5_copy_15 (nI_mul _ _) ?_
      refine lv_iload_n hx hb dX5_copy_16 rfl (lv_at hl 0 rfl) ?_
      refine bd_iadd (v := nI (34 * t + i)) hx hb dX5_copy_17 (nI_add _ _) ?_
      refine lv_aload_n hx hb dX5_copy_18 rfl (lv_at hl 1 rfl) ?_
      refine md_g C i5 hw hm 3 (by decide) (v := .ref (mo 1)) rfl dX5_copy_19 lk7 ?_
      refine lv_bipush (v := nI 34) hx hb dX5_copy_22 (by decide) ?_
      refine lv_iload_n hx hb dX5_copy_24 rfl (lv_at hl 3 rfl) ?_
      refine bd_imul (v := nI (34 * r)) hx hb dX5_copy_25 (nI_mul _ _) ?_
      refine lv_iload_n hx hb dX5_copy_26 rfl (lv_at hl 0 rfl) ?_
      refine bd_iadd (v := nI (34 * r + i)) hx hb dX5_copy_27 (nI_add _ _) ?_
      refine md_ld1 C hw hm (r := r) (k := i) dX5_copy_28 (by omega) (by omega) ?_
      refine md_st1u C hw (r := t) (k := i) (x := ((va_up Fo t f1) r i)) hm dX5_copy_29 (by omega) (by omega) (fun E H locs hm hw => ?_)
      refine lv_iinc (v := (nI (i + 1))) (lv' := [(3, .int (nI (i + 1))), (0, .ref (mo 0)), (1, .int (nI t)), (2, .int (nI r))]) hx hb dX5_copy_30 hl (k := 0) rfl (nI_1 _) (by decide) rfl (fun ls hl => ?_)
      refine lv_goto (tgt := 2) hx hb dX5_copy_33 (by decide) ?_
      exact ih (d9 - 1) (by omega) (i + 1) _ E ls H locs (by omega) hm (up_s (T := fun j y => y = Fo r j) hf (rd_k (fun q => by rw [q]; exact hg i (Nat.le_refl _)))) (up_g hg) (lv_sub hl [0, 1, 2, 3] rfl) hw
