/-! constructors: Ball (laid by wip/gen/m_init2.py) -/
theorem tr_W {T : np_T} {N k : Nat} {ad ad1 : Nat → Nat} {f f1 : Nat → va_E} (he : ix_e N ad ad1) (hfr : ∀ i, i < N → f1 (ad1 i) = f (ad i)) (hk : k + 1 < N) (h : ix_XW T (k + 1) k ad f) : ix_XW T (k + 1) k ad1 f1 :=
  ⟨by rw [hfr k (by omega), h.1, he (k + 1) hk], by rw [hfr (k + 1) hk, h.2]⟩
theorem tr_D {T : np_T} {N k : Nat} {ad ad1 : Nat → Nat} {f f1 : Nat → va_E} (he : ix_e N ad ad1) (hfr : ∀ i, i < N → f1 (ad1 i) = f (ad i)) (hk : k + 2 < N) (h : ix_XD T (k + 1) k ad f) : ix_XD T (k + 1) k ad1 f1 :=
  ⟨by rw [hfr k (by omega), h.1, he (k + 1) (by omega), he (k + 1 + 1) (by omega)], by rw [hfr (k + 1) (by omega), h.2.1], by rw [hfr (k + 1 + 1) (by omega), h.2.2]⟩
theorem tr_B {T : np_T} {N k : Nat} {ad ad1 : Nat → Nat} {f f1 : Nat → va_E} (he : ix_e N ad ad1) (hfr : ∀ i, i < N → f1 (ad1 i) = f (ad i)) (hk : k + 4 < N) (h : ix_XB T (k + 1) k ad f) : ix_XB T (k + 1) k ad1 f1 :=
  ⟨by rw [hfr k (by omega), h.1, he (k + 1) (by omega), he (k + 1 + 2) (by omega)], tr_W he hfr (by omega) h.2.1, tr_W he hfr (by omega) h.2.2⟩
theorem tp_W {T : np_T} {N k p0 : Nat} {ad : Nat → Nat} {f f1 : Nat → va_E} (hfr : ∀ i, i < N → i ≠ p0 → f1 (ad i) = f (ad i)) (hk : k + 1 < N) (hp : p0 < k ∨ k + 1 < p0) (h : ix_XW T (k + 1) k ad f) : ix_XW T (k + 1) k ad f1 :=
  ⟨by rw [hfr k (by omega) (by omega), h.1], by rw [hfr (k + 1) hk (by omega), h.2]⟩
theorem tp_D {T : np_T} {N k p0 : Nat} {ad : Nat → Nat} {f f1 : Nat → va_E} (hfr : ∀ i, i < N → i ≠ p0 → f1 (ad i) = f (ad i)) (hk : k + 2 < N) (hp : p0 < k ∨ k + 2 < p0) (h : ix_XD T (k + 1) k ad f) : ix_XD T (k + 1) k ad f1 :=
  ⟨by rw [hfr k (by omega) (by omega), h.1], by rw [hfr (k + 1) (by omega) (by omega), h.2.1], by rw [hfr (k + 1 + 1) (by omega) (by omega), h.2.2]⟩
theorem tp_B {T : np_T} {N k p0 : Nat} {ad : Nat → Nat} {f f1 : Nat → va_E} (hfr : ∀ i, i < N → i ≠ p0 → f1 (ad i) = f (ad i)) (hk : k + 4 < N) (hp : p0 < k ∨ k + 4 < p0) (h : ix_XB T (k + 1) k ad f) : ix_XB T (k + 1) k ad f1 :=
  ⟨by rw [hfr k (by omega) (by omega), h.1], tp_W hfr (by omega) (by omega) h.2.1, tp_W hfr (by omega) (by omega) h.2.2⟩
set_option maxHeartbeats 4000000 in
set_option maxRecDepth 100000 in
/-- new Ball() -/
theorem i0_init (l : Launch) (D : va_G) (T : np_T) (n : Nat) (ad0 : Nat → Nat) (f0 : Nat → va_E) (sz : Nat) (p0 : Nat) (hp : p0 < n) (hf : f0 (ad0 p0) = .inr (0, [.null, .null])) : Met l yX0_init wsX0_init ({ frames := 2, cells := 4, slots := 54, locals := 40 }) (va_Pc [.ref (ad0 p0)] (np_P D T (ix_L ad0 n) f0 sz)) (va_Qv (ix_q n 4 p0 ad0 f0 (ix_XB T n p0)) (np_B D T (ix_L ad0 n) sz) (np_A (ix_L ad0 n) sz)) 4 54 (np_A (ix_L ad0 n) sz) := by
  refine np_ofW (cc := cX0_init) (maxL := 1) (by decide) rfl rfl (Nat.le_of_ble_eq_true rfl) ?_
  intro p e s m below meth c ls C hr hlk hsz hw hl
  have hx := C.1
  have hb := C.2.1
  have hml := C.2.2.1
  have hown := C.2.2.2.1
  have hts := C.2.2.2.2.1
  have hNs := C.2.2.2.2.2.2.1
  have hinj := fun {i j : Nat} => ix_inj hw.2.1 (i := i) (j := j)
  have hl : lv_has ls 1 [(0, .ref (ad0 p0))] := hl
  have hE : ix_e n ad0 ad0 := ix_er _ _
  have hO : ∀ i, i < n → i ≠ p0 → f0 (ad0 i) = f0 (ad0 i) := fun _ _ _ => rfl
  have hF := hf
  refine lv_aload_n hx hb dX0_init_0 rfl (lv_at hl 0 rfl) ?_
  refine W.objInit hx hb hown (hts (.methodLink RX0 1 objectInit) (by decide +kernel)) (hts (.instanceMethod objectInit) (by decide +kernel)) (hts _ (List.mem_of_getElem? (i := 3) rfl)) rfl (by rw [hml]; exact hl.1) rfl dX0_init_1 (Nat.le_of_ble_eq_true rfl) (Nat.le_of_ble_eq_true rfl) ?_
  refine W.eq (g2 := F0 m 4 ls []) rfl ?_
  refine lv_aload_n hx hb dX0_init_4 rfl (lv_at hl 0 rfl) ?_
  refine ix_mk (C0 := RX3) (T0 := TX3) (N := 3) (ci := 3) (fs := [.null, .int 0, .int 0]) (k := 1) (X := ix_XW T) (host := "BallDesk") (fun n ad f sz p0 h1 h2 => i3_init l D T n ad f sz p0 h1 h2) C (by decide +kernel) tyX3 tyX3_ok (by decide +kernel) (by decide +kernel) (by decide +kernel) hsz hw rfl (fun j hj => by rcases (show j = 0 ∨ j = 1 ∨ j = 2 by omega) with rfl | rfl | rfl <;> rfl) ⟨va_cnB 0 hts gX0_init_X3_init_n9 rfl rfl rfl (hNs _ (by decide +kernel)) (hts (.initialized RX3) (by decide +kernel)) (by decide +kernel) ⟨(Nat.le_of_ble_eq_true rfl), (Nat.le_of_ble_eq_true rfl)⟩, rfl, hts (.instanceMethod yX3_init) (by decide +kernel)⟩ hl.1 (Nat.le_of_ble_eq_true rfl) ⟨(Nat.le_of_ble_eq_true rfl), (Nat.le_of_ble_eq_true rfl)⟩ dX0_init_5 dX0_init_8 dX0_init_9 (fun ad f H locs he hfr hX hw => ?_)
  have hw : np_W D (ix_L ad (n + 2)) f (np_A (ix_L ad0 n) sz) s.heap H locs := hw
  have hinj := fun {i j : Nat} => ix_inj hw.2.1 (i := i) (j := j)
  have hF : f (ad p0) = .inr (0, [.null, .null]) := by rw [hfr p0 (by omega), hF]
  have hE : ix_e n ad0 ad := fun i hi => (he i (by omega)).trans (hE i hi)
  have hO : ∀ i, i < n → i ≠ p0 → f (ad i) = f0 (ad0 i) := fun i h1 h2 => (hfr i (by omega)).trans (hO i h1 h2)
  have FW0 := hX
  refine np_putF (C0 := RX0) (T0 := TX0) (N := 2) (ci := 0) (ty := .object "BallDesk$Whole") C (by decide +kernel) tyX0 tyX0_ok nmX0 hw (by first | exact ix_in (by omega) | (rw [← hE p0 hp]; exact ix_in (by omega))) (by first | exact hF | (rw [← hE p0 hp]; exact hF)) rfl 0 (by decide) (by decide +kernel) rfl rfl rfl (by decide +kernel) rfl rfl (Nat.le_of_ble_eq_true rfl) dX0_init_12 (fun H locs hw => ?_)
  rw [← hE p0 hp] at hw
  obtain ⟨f1, hf1⟩ : ∃ g, g = va_up f (ad p0) (.inr (0, [.ref (ad n), .null])) := ⟨_, rfl⟩
  have hw : np_W D (ix_L ad (n + 2)) f1 (np_A (ix_L ad0 n) sz) s.heap H locs := by rw [hf1]; exact hw
  have hF : f1 (ad p0) = .inr (0, [.ref (ad n), .null]) := by rw [hf1]; exact va_up_self _ _ _
  have hfr : ∀ i, i < n + 2 → i ≠ p0 → f1 (ad i) = f (ad i) := fun i h1 h2 => by rw [hf1]; exact va_up_ne _ _ (fun h => h2 (hinj h1 (by omega) h))
  have FW0 := tp_W hfr (by omega) (by omega) FW0
  have hO : ∀ i, i < n → i ≠ p0 → f1 (ad i) = f0 (ad0 i) := fun i h1 h2 => (hfr i (by omega) h2).trans (hO i h1 h2)
  clear hf1 hfr
  generalize f1 = f at *
  refine lv_aload_n hx hb dX0_init_15 rfl (lv_at hl 0 rfl) ?_
  refine ix_mk (C0 := RX3) (T0 := TX3) (N := 3) (ci := 3) (fs := [.null, .int 0, .int 0]) (k := 1) (X := ix_XW T) (host := "BallDesk") (fun n ad f sz p0 h1 h2 => i3_init l D T n ad f sz p0 h1 h2) C (by decide +kernel) tyX3 tyX3_ok (by decide +kernel) (by decide +kernel) (by decide +kernel) hsz hw rfl (fun j hj => by rcases (show j = 0 ∨ j = 1 ∨ j = 2 by omega) with rfl | rfl | rfl <;> rfl) ⟨va_cnB 0 hts gX0_init_X3_init_n9 rfl rfl rfl (hNs _ (by decide +kernel)) (hts (.initialized RX3) (by decide +kernel)) (by decide +kernel) ⟨(Nat.le_of_ble_eq_true rfl), (Nat.le_of_ble_eq_true rfl)⟩, rfl, hts (.instanceMethod yX3_init) (by decide +kernel)⟩ hl.1 (Nat.le_of_ble_eq_true rfl) ⟨(Nat.le_of_ble_eq_true rfl), (Nat.le_of_ble_eq_true rfl)⟩ dX0_init_16 dX0_init_19 dX0_init_20 (fun ad f H locs he hfr hX hw => ?_)
  have hw : np_W D (ix_L ad (n + 4)) f (np_A (ix_L ad0 n) sz) s.heap H locs := hw
  have hinj := fun {i j : Nat} => ix_inj hw.2.1 (i := i) (j := j)
  have hF : f (ad p0) = .inr (0, [.ref (ad n), .null]) := by rw [hfr p0 (by omega), hF, he n (by omega)]
  have FW0 := tr_W he hfr (by omega) FW0
  have hE : ix_e n ad0 ad := fun i hi => (he i (by omega)).trans (hE i hi)
  have hO : ∀ i, i < n → i ≠ p0 → f (ad i) = f0 (ad0 i) := fun i h1 h2 => (hfr i (by omega)).trans (hO i h1 h2)
  have FW2 := hX
  refine np_putF (C0 := RX0) (T0 := TX0) (N := 2) (ci := 0) (ty := .object "BallDesk$Whole") C (by decide +kernel) tyX0 tyX0_ok nmX0 hw (by first | exact ix_in (by omega) | (rw [← hE p0 hp]; exact ix_in (by omega))) (by first | exact hF | (rw [← hE p0 hp]; exact hF)) rfl 1 (by decide) (by decide +kernel) rfl rfl rfl (by decide +kernel) rfl rfl (Nat.le_of_ble_eq_true rfl) dX0_init_23 (fun H locs hw => ?_)
  rw [← hE p0 hp] at hw
  obtain ⟨f1, hf1⟩ : ∃ g, g = va_up f (ad p0) (.inr (0, [.ref (ad n), .ref (ad (n + 2))])) := ⟨_, rfl⟩
  have hw : np_W D (ix_L ad (n + 4)) f1 (np_A (ix_L ad0 n) sz) s.heap H locs := by rw [hf1]; exact hw
  have hF : f1 (ad p0) = .inr (0, [.ref (ad n), .ref (ad (n + 2))]) := by rw [hf1]; exact va_up_self _ _ _
  have hfr : ∀ i, i < n + 4 → i ≠ p0 → f1 (ad i) = f (ad i) := fun i h1 h2 => by rw [hf1]; exact va_up_ne _ _ (fun h => h2 (hinj h1 (by omega) h))
  have FW0 := tp_W hfr (by omega) (by omega) FW0
  have FW2 := tp_W hfr (by omega) (by omega) FW2
  have hO : ∀ i, i < n → i ≠ p0 → f1 (ad i) = f0 (ad0 i) := fun i h1 h2 => (hfr i (by omega) h2).trans (hO i h1 h2)
  clear hf1 hfr
  generalize f1 = f at *
  refine np_vret C hr hlk hw dX0_init_26 ⟨ad, hE, rfl, fun i h1 h2 => by rw [← hE i h1]; exact (hO i h1 h2).trans (by rw [hE i h1]), hF, FW0, FW2⟩
