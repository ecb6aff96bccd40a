/-! constructors: Whole, Division (laid by wip/gen/m_init.py) -/
set_option maxHeartbeats 4000000 in
set_option maxRecDepth 100000 in
/-- new Whole() -/
theorem i3_init (l : Launch) (D : va_G) (T : np_T) (n : Nat) (ad : Nat → Nat) (f : Nat → va_E) (sz : Nat) (p0 : Nat) (hp : p0 < n) (hf : f (ad p0) = .inr (3, [.null, .int 0, .int 0])) : Met l yX3_init wsX3_init ({ frames := 1, cells := 1, slots := 24, locals := 12 }) (va_Pc [.ref (ad p0)] (np_P D T (ix_L ad n) f sz)) (va_Qv (ix_q n 1 p0 ad f (ix_XW T n p0)) (np_B D T (ix_L ad n) sz) (np_A (ix_L ad n) sz)) 1 24 (np_A (ix_L ad n) sz) := by
  refine np_ofW (cc := cX3_init) (maxL := 1) (by decide) rfl rfl (Nat.le_of_ble_eq_true rfl) ?_
  intro p e s m below meth c ls C hr hlk hsz hw hl
  have hx := C.1
  have hb := C.2.1
  have hml := C.2.2.1
  have hown := C.2.2.2.1
  have hts := C.2.2.2.2.1
  have hNs := C.2.2.2.2.2.2.1
  have hinj := fun {i j : Nat} => ix_inj hw.2.1 (i := i) (j := j)
  have hl : lv_has ls 1 [(0, .ref (ad p0))] := hl
  refine lv_aload_n hx hb dX3_init_0 rfl (lv_at hl 0 rfl) ?_
  refine W.objInit hx hb hown (hts (.methodLink RX3 1 objectInit) (by decide +kernel)) (hts (.instanceMethod objectInit) (by decide +kernel)) (hts _ (List.mem_of_getElem? (i := 3) rfl)) rfl (by rw [hml]; exact hl.1) rfl dX3_init_1 (Nat.le_of_ble_eq_true rfl) (Nat.le_of_ble_eq_true rfl) ?_
  refine W.eq (g2 := F0 m 4 ls []) rfl ?_
  refine lv_aload_n hx hb dX3_init_4 rfl (lv_at hl 0 rfl) ?_
  refine lv_bipush (v := nI 24) hx hb dX3_init_5 (by decide) ?_
  refine np_newl (N' := 24) C (by decide +kernel) hsz hw (by decide) (by decide) (by decide) (Nat.le_of_ble_eq_true rfl) (Nat.le_of_ble_eq_true rfl) dX3_init_7 (fun r H hq hw => ?_)
  have hne : ad p0 ≠ r := fun h => hq (by rw [← h]; exact ix_in hp)
  refine np_putF (C0 := RX3) (T0 := TX3) (N := 3) (ci := 3) (ty := .array .long) C (by decide +kernel) tyX3 tyX3_ok nmX3 hw (List.mem_append_left _ (ix_in hp)) (by rw [va_up_ne _ _ hne]; exact hf) rfl 0 (by decide) (by decide +kernel) rfl rfl rfl (by decide +kernel) rfl rfl (Nat.le_of_ble_eq_true rfl) dX3_init_9 (fun H locs hw => ?_)
  refine np_vret C hr hlk hw dX3_init_12 ⟨va_up ad n r, fun i hi => va_up_ne _ _ (by omega), ix_s, fun i hi hi2 => ?_, ?_, ?_⟩
  · show va_up (va_up f r _) (ad p0) _ (ad i) = _
    rw [va_up_ne _ _ (fun h => hi2 (hinj hi hp h)), va_up_ne _ _ (fun h => hq (by rw [← h]; exact ix_in hi))]
  · show va_up (va_up f r _) (ad p0) _ (va_up ad n r p0) = np_w (va_up ad n r n)
    rw [va_up_ne ad r (show p0 ≠ n by omega), va_up_self, va_up_self]
    rfl
  · show va_up (va_up f r _) (ad p0) _ (va_up ad n r n) = np_R T 24
    rw [va_up_self, va_up_ne _ _ (fun h => hne h.symm), va_up_self]
set_option maxHeartbeats 4000000 in
set_option maxRecDepth 100000 in
/-- new Division() -/
theorem i1_init (l : Launch) (D : va_G) (T : np_T) (n : Nat) (ad : Nat → Nat) (f : Nat → va_E) (sz : Nat) (p0 : Nat) (hp : p0 < n) (hf : f (ad p0) = .inr (1, [.null, .null, .int 0, .int 0])) : Met l yX1_init wsX1_init ({ frames := 1, cells := 2, slots := 49, locals := 12 }) (va_Pc [.ref (ad p0)] (np_P D T (ix_L ad n) f sz)) (va_Qv (ix_q n 2 p0 ad f (ix_XD T n p0)) (np_B D T (ix_L ad n) sz) (np_A (ix_L ad n) sz)) 2 49 (np_A (ix_L ad n) sz) := by
  refine np_ofW (cc := cX1_init) (maxL := 1) (by decide) rfl rfl (Nat.le_of_ble_eq_true rfl) ?_
  intro p e s m below meth c ls C hr hlk hsz hw hl
  have hx := C.1
  have hb := C.2.1
  have hml := C.2.2.1
  have hown := C.2.2.2.1
  have hts := C.2.2.2.2.1
  have hNs := C.2.2.2.2.2.2.1
  have hinj := fun {i j : Nat} => ix_inj hw.2.1 (i := i) (j := j)
  have hl : lv_has ls 1 [(0, .ref (ad p0))] := hl
  refine lv_aload_n hx hb dX1_init_0 rfl (lv_at hl 0 rfl) ?_
  refine W.objInit hx hb hown (hts (.methodLink RX1 1 objectInit) (by decide +kernel)) (hts (.instanceMethod objectInit) (by decide +kernel)) (hts _ (List.mem_of_getElem? (i := 3) rfl)) rfl (by rw [hml]; exact hl.1) rfl dX1_init_1 (Nat.le_of_ble_eq_true rfl) (Nat.le_of_ble_eq_true rfl) ?_
  refine W.eq (g2 := F0 m 4 ls []) rfl ?_
  refine lv_aload_n hx hb dX1_init_4 rfl (lv_at hl 0 rfl) ?_
  refine lv_bipush (v := nI 25) hx hb dX1_init_5 (by decide) ?_
  refine np_newl (N' := 25) C (by decide +kernel) hsz hw (by decide) (by decide) (by decide) (Nat.le_of_ble_eq_true rfl) (Nat.le_of_ble_eq_true rfl) dX1_init_7 (fun r H hq hw => ?_)
  have hne : ad p0 ≠ r := fun h => hq (by rw [← h]; exact ix_in hp)
  refine np_putF (C0 := RX1) (T0 := TX1) (N := 4) (ci := 1) (ty := .array .long) C (by decide +kernel) tyX1 tyX1_ok nmX1 hw (List.mem_append_left _ (ix_in hp)) (by rw [va_up_ne _ _ hne]; exact hf) rfl 0 (by decide) (by decide +kernel) rfl rfl rfl (by decide +kernel) rfl rfl (Nat.le_of_ble_eq_true rfl) dX1_init_9 (fun H locs hw => ?_)
  refine lv_aload_n hx hb dX1_init_12 rfl (lv_at hl 0 rfl) ?_
  refine lv_bipush (v := nI 24) hx hb dX1_init_13 (by decide) ?_
  refine np_newl (N' := 24) C (by decide +kernel) hsz hw (by decide) (by decide) (by decide) (Nat.le_of_ble_eq_true rfl) (Nat.le_of_ble_eq_true rfl) dX1_init_15 (fun r2 H hq2 hw => ?_)
  have hne2 : ad p0 ≠ r2 := fun h => hq2 (by rw [← h]; exact List.mem_append_left _ (ix_in hp))
  have hrr : r ≠ r2 := fun h => hq2 (by rw [← h]; exact List.mem_append_right _ (List.mem_singleton.mpr rfl))
  refine np_putF (C0 := RX1) (T0 := TX1) (N := 4) (ci := 1) (ty := .array .long) C (by decide +kernel) tyX1 tyX1_ok nmX1 hw (List.mem_append_left _ (List.mem_append_left _ (ix_in hp))) (by rw [va_up_ne _ _ hne2, va_up_self]) rfl 1 (by decide) (by decide +kernel) rfl rfl rfl (by decide +kernel) rfl rfl (Nat.le_of_ble_eq_true rfl) dX1_init_17 (fun H locs hw => ?_)
  have hLL : (ix_L ad n ++ [r]) ++ [r2] = ix_L (va_up (va_up ad n r) (n + 1) r2) (n + 2) := by rw [ix_s, ix_s]
  have e0 : va_up (va_up ad n r) (n + 1) r2 n = r := by rw [va_up_ne _ _ (by omega), va_up_self]
  have e1 : va_up (va_up ad n r) (n + 1) r2 (n + 1) = r2 := va_up_self _ _ _
  refine np_vret C hr hlk hw dX1_init_20 ⟨va_up (va_up ad n r) (n + 1) r2, fun i hi => by rw [va_up_ne _ _ (by omega), va_up_ne _ _ (by omega)], hLL, fun i hi hi2 => ?_, ?_, ?_, ?_⟩
  · have h1 : ad i ≠ ad p0 := fun h => hi2 (hinj hi hp h)
    have h2 : ad i ≠ r := fun h => hq (by rw [← h]; exact ix_in hi)
    have h3 : ad i ≠ r2 := fun h => hq2 (by rw [← h]; exact List.mem_append_left _ (ix_in hi))
    show va_up (va_up (va_up (va_up f r _) (ad p0) _) r2 _) (ad p0) _ (ad i) = _
    rw [va_up_ne _ _ h1, va_up_ne _ _ h3, va_up_ne _ _ h1, va_up_ne _ _ h2]
  · show va_up (va_up (va_up (va_up f r _) (ad p0) _) r2 _) (ad p0) _ (va_up (va_up ad n r) (n + 1) r2 p0) = _
    rw [va_up_ne (va_up ad n r) r2 (show p0 ≠ n + 1 by omega), va_up_ne ad r (show p0 ≠ n by omega), va_up_self, e0, e1]
    rfl
  · show va_up (va_up (va_up (va_up f r _) (ad p0) _) r2 _) (ad p0) _ (va_up (va_up ad n r) (n + 1) r2 n) = _
    rw [e0, va_up_ne _ _ hne.symm, va_up_ne _ _ hrr, va_up_ne _ _ hne.symm, va_up_self]
  · show va_up (va_up (va_up (va_up f r _) (ad p0) _) r2 _) (ad p0) _ (va_up (va_up ad n r) (n + 1) r2 (n + 1)) = _
    rw [e1, va_up_ne _ _ hne2.symm, va_up_self]
