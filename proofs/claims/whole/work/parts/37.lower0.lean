/-! Whole.lower(0) (laid by wip/gen/m_fine3.py) -/
set_option maxHeartbeats 4000000 in
set_option maxRecDepth 100000 in
/-- Whole.lower(0) -/
theorem c3_lower0 (l : Launch) (K : Cxt) (E : Nat → va_E) (z0 : Nat → Wh) (sz h : Nat)   : Met l yX3_lower wsX3_lower ({ frames := 1, cells := 0, slots := 0, locals := 40 }) (va_Pc [.ref h, .int (nI 0)] (bd_P K E z0 sz)) (va_Qv (fun u => u = (E, z0)) (bd_B K) (bd_A K sz)) 0 0 (bd_A K sz) := by
  refine bd_ofW (cc := cX3_lower) (maxL := 9) (ret := none) (by decide) rfl (Nat.le_of_ble_eq_true rfl) ?_
  intro p e s m below meth c ls C hr hlk hsz hw hl
  have hx := C.1
  have hb := C.2.1
  have hown := C.2.2.2.1
  have hts := C.2.2.2.2.1
  have ho : ∀ b, b ≠ h → z0 b = z0 b := fun _ _ => rfl
  have hl : lv_has ls 9 [(0, .ref h), (1, .int (nI 0))] := hl
  refine lv_iload_n hx hb dX3_lower_0 rfl (lv_at hl 1 rfl) ?_
  refine bd_zgt (h1 := (by omega)) (tgt := 5) hx hb dX3_lower_1 (by decide) (fun hc1 => ?_) (fun hc1 => ?_)
  · exact absurd hc1 (by decide)
  · exact bd_vret C hr hlk hw dX3_lower_4 rfl
theorem v3_lowerZ (l : Launch) (K : Cxt) (E : Nat → va_E) (z : Nat → Wh) (sz : Nat) {sg : Nat → Int} (hS : sg_S K z sg) (h : Nat) (t : Nat) (hh : h ∈ bd_N K) (ht : t < 1000) : Met l yX3_lower wsX3_lower ({ frames := 1, cells := 0, slots := 0, locals := 40 }) (va_Pc [.ref h, .int (nI t)] (bd_P K E z sz)) (va_Qv (fun u => u.1 = E ∧ sg_S K u.2 (va_up sg h (sg h / ((2 ^ t : Nat) : Int)))) (bd_B K) (bd_A K sz)) 0 0 (bd_A K sz) := by
  rcases Nat.eq_zero_or_pos t with q | q
  · subst q
    refine bd_mv (c3_lower0 l K E z sz h) (fun u q => ?_)
    rw [q]
    refine ⟨rfl, sg_up hS ?_ (fun _ _ => rfl)⟩
    show bd_n (z h) (sg h / ((1 : Nat) : Int))
    rw [show ((1 : Nat) : Int) = 1 from rfl, Int.ediv_one]
    exact hS h hh
  · exact v3_lower l K E z sz hS h t hh q ht
