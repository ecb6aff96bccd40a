/-! constructors: Fine (laid by wip/gen/m_init3.py) -/
/-- the fine numbers made at p0: their 23 cells from n on -/
def ix_XF (T : np_T) (Qb n p0 : Nat) (ad1 : Nat → Nat) (f1 : Nat → va_E) : Prop := f1 (ad1 p0) = .inr (2, [.int (nI Qb), .ref (ad1 n), .ref (ad1 (n + 2)), .ref (ad1 (n + 5)), .ref (ad1 (n + 7)), .ref (ad1 (n + 9)), .ref (ad1 (n + 11)), .ref (ad1 (n + 13)), .ref (ad1 (n + 15)), .ref (ad1 (n + 17)), .ref (ad1 (n + 19)), .ref (ad1 (n + 21))]) ∧ ix_V T n ad1 f1 ((2 ^ Qb : Nat) : Int) ∧ ix_XD T (n + 3) (n + 2) ad1 f1 ∧ ∀ i, i < 9 → ix_XW T (n + 5 + 2 * i + 1) (n + 5 + 2 * i) ad1 f1
theorem tq_W {T : np_T} {N k a : Nat} {ad : Nat → Nat} {f f1 : Nat → va_E} (hfr : ∀ i, i < N → i ≠ a → i ≠ a + 1 → f1 (ad i) = f (ad i)) (hk : k + 1 < N) (hp : a + 1 < k ∨ k + 1 < a) (h : ix_XW T (k + 1) k ad f) : ix_XW T (k + 1) k ad f1 :=
  ⟨by rw [hfr k (by omega) (by omega) (by omega), h.1], by rw [hfr (k + 1) hk (by omega) (by omega), h.2]⟩
theorem tq_D {T : np_T} {N k a : Nat} {ad : Nat → Nat} {f f1 : Nat → va_E} (hfr : ∀ i, i < N → i ≠ a → i ≠ a + 1 → f1 (ad i) = f (ad i)) (hk : k + 2 < N) (hp : a + 1 < k ∨ k + 2 < a) (h : ix_XD T (k + 1) k ad f) : ix_XD T (k + 1) k ad f1 :=
  ⟨by rw [hfr k (by omega) (by omega) (by omega), h.1], by rw [hfr (k + 1) (by omega) (by omega) (by omega), h.2.1], by rw [hfr (k + 1 + 1) (by omega) (by omega) (by omega), h.2.2]⟩
theorem tq_B {T : np_T} {N k a : Nat} {ad : Nat → Nat} {f f1 : Nat → va_E} (hfr : ∀ i, i < N → i ≠ a → i ≠ a + 1 → f1 (ad i) = f (ad i)) (hk : k + 4 < N) (hp : a + 1 < k ∨ k + 4 < a) (h : ix_XB T (k + 1) k ad f) : ix_XB T (k + 1) k ad f1 :=
  ⟨by rw [hfr k (by omega) (by omega) (by omega), h.1], tq_W hfr (by omega) (by omega) h.2.1, tq_W hfr (by omega) (by omega) h.2.2⟩
set_option maxHeartbeats 4000000 in
set_option maxRecDepth 100000 in
/-- new Fine(bits) -/
theorem i2_init (l : Launch) (D : va_G) (T : np_T) (n : Nat) (ad0 : Nat → Nat) (f0 : Nat → va_E) (sz : Nat) (p0 Qb : Nat) (hp : p0 < n) (hQ : Qb < 768) (hf : f0 (ad0 p0) = .inr (2, [.int 0, .null, .null, .null, .null, .null, .null, .null, .null, .null, .null, .null])) : Met l yX2_init wsX2_init ({ frames := 2, cells := 23, slots := 323, locals := 60 }) (va_Pc [.ref (ad0 p0), .int (nI Qb)] (np_P D T (ix_L ad0 n) f0 sz)) (va_Qv (ix_q n 23 p0 ad0 f0 (ix_XF T Qb n p0)) (np_B D T (ix_L ad0 n) sz) (np_A (ix_L ad0 n) sz)) 23 323 (np_A (ix_L ad0 n) sz) := by
  refine np_ofW (cc := cX2_init) (maxL := 2) (by decide) rfl rfl (Nat.le_of_ble_eq_true rfl) ?_
  intro p e s m below meth c ls C hr hlk hsz hw hl
  have hx := C.1
  have hb := C.2.1
  have hml := C.2.2.1
  have hown := C.2.2.2.1
  have hts := C.2.2.2.2.1
  have hNs := C.2.2.2.2.2.2.1
  have hinj := fun {i j : Nat} => ix_inj hw.2.1 (i := i) (j := j)
  have hl : lv_has ls 2 [(0, .ref (ad0 p0)), (1, .int (nI Qb))] := hl
  have hE : ix_e n ad0 ad0 := ix_er _ _
  have hO : ∀ i, i < n → i ≠ p0 → f0 (ad0 i) = f0 (ad0 i) := fun _ _ _ => rfl
  have hF := hf
  refine lv_aload_n hx hb dX2_init_0 rfl (lv_at hl 0 rfl) ?_
  refine W.objInit hx hb hown (hts (.methodLink RX2 1 objectInit) (by decide +kernel)) (hts (.instanceMethod objectInit) (by decide +kernel)) (hts _ (List.mem_of_getElem? (i := 3) rfl)) rfl (by rw [hml]; exact hl.1) rfl dX2_init_1 (Nat.le_of_ble_eq_true rfl) (Nat.le_of_ble_eq_true rfl) ?_
  refine W.eq (g2 := F0 m 4 ls []) rfl ?_
  refine lv_aload_n hx hb dX2_init_4 rfl (lv_at hl 0 rfl) ?_
  refine ix_mk (C0 := RX3) (T0 := TX3) (N := 3) (ci := 3) (fs := [.null, .int 0, .int 0]) (k := 1) (X := ix_XW T) (host := "BallDesk") (fun n ad f sz p0 h1 h2 => i3_init l D T n ad f sz p0 h1 h2) C (by decide +kernel) tyX3 tyX3_ok (by decide +kernel) (by decide +kernel) (by decide +kernel) hsz hw rfl (fun j hj => by rcases (show j = 0 ∨ j = 1 ∨ j = 2 by omega) with rfl | rfl | rfl <;> rfl) ⟨va_cnB 0 hts gX2_init_X3_init_n9 rfl rfl rfl (hNs _ (by decide +kernel)) (hts (.initialized RX3) (by decide +kernel)) (by decide +kernel) ⟨(Nat.le_of_ble_eq_true rfl), (Nat.le_of_ble_eq_true rfl)⟩, rfl, hts (.instanceMethod yX3_init) (by decide +kernel)⟩ hl.1 (Nat.le_of_ble_eq_true rfl) ⟨(Nat.le_of_ble_eq_true rfl), (Nat.le_of_ble_eq_true rfl)⟩ dX2_init_5 dX2_init_8 dX2_init_9 (fun ad f H locs he hfr hX hw => ?_)
  have hw : np_W D (ix_L ad (n + 2)) f (np_A (ix_L ad0 n) sz) s.heap H locs := hw
  have hinj := fun {i j : Nat} => ix_inj hw.2.1 (i := i) (j := j)
  have hF : f (ad p0) = .inr (2, [.int 0, .null, .null, .null, .null, .null, .null, .null, .null, .null, .null, .null]) := by rw [hfr p0 (by omega), hF]
  have hE : ix_e n ad0 ad := fun i hi => (he i (by omega)).trans (hE i hi)
  have hO : ∀ i, i < n → i ≠ p0 → f (ad i) = f0 (ad0 i) := fun i h1 h2 => (hfr i (by omega)).trans (hO i h1 h2)
  have FX0 := hX
  refine np_putF (C0 := RX2) (T0 := TX2) (N := 12) (ci := 2) (ty := .object "BallDesk$Whole") C (by decide +kernel) tyX2 tyX2_ok nmX2 hw (by first | exact ix_in (by omega) | (rw [← hE p0 hp]; exact ix_in (by omega))) (by first | exact hF | (rw [← hE p0 hp]; exact hF)) rfl 1 (by decide) (by decide +kernel) rfl rfl rfl (by decide +kernel) rfl rfl (Nat.le_of_ble_eq_true rfl) dX2_init_12 (fun H locs hw => ?_)
  rw [← hE p0 hp] at hw
  obtain ⟨f1, hf1⟩ : ∃ g, g = va_up f (ad p0) (.inr (2, [.int 0, .ref (ad n), .null, .null, .null, .null, .null, .null, .null, .null, .null, .null])) := ⟨_, rfl⟩
  have hw : np_W D (ix_L ad (n + 2)) f1 (np_A (ix_L ad0 n) sz) s.heap H locs := by rw [hf1]; exact hw
  have hF : f1 (ad p0) = .inr (2, [.int 0, .ref (ad n), .null, .null, .null, .null, .null, .null, .null, .null, .null, .null]) := by rw [hf1]; exact va_up_self _ _ _
  have hfr : ∀ i, i < n + 2 → i ≠ p0 → f1 (ad i) = f (ad i) := fun i h1 h2 => by rw [hf1]; exact va_up_ne _ _ (fun h => h2 (hinj h1 (by omega) h))
  have FX0 := tp_W hfr (by omega) (by omega) FX0
  have hO : ∀ i, i < n → i ≠ p0 → f1 (ad i) = f0 (ad0 i) := fun i h1 h2 => (hfr i (by omega) h2).trans (hO i h1 h2)
  clear hf1 hfr
  generalize f1 = f at *
  refine lv_aload_n hx hb dX2_init_15 rfl (lv_at hl 0 rfl) ?_
  refine ix_mk (C0 := RX1) (T0 := TX1) (N := 4) (ci := 1) (fs := [.null, .null, .int 0, .int 0]) (k := 2) (X := ix_XD T) (host := "BallDesk") (fun n ad f sz p0 h1 h2 => i1_init l D T n ad f sz p0 h1 h2) C (by decide +kernel) tyX1 tyX1_ok (by decide +kernel) (by decide +kernel) (by decide +kernel) hsz hw rfl (fun j hj => by rcases (show j = 0 ∨ j = 1 ∨ j = 2 ∨ j = 3 by omega) with rfl | rfl | rfl | rfl <;> rfl) ⟨va_cnB 0 hts gX2_init_X1_init_n18 rfl rfl rfl (hNs _ (by decide +kernel)) (hts (.initialized RX1) (by decide +kernel)) (by decide +kernel) ⟨(Nat.le_of_ble_eq_true rfl), (Nat.le_of_ble_eq_true rfl)⟩, rfl, hts (.instanceMethod yX1_init) (by decide +kernel)⟩ hl.1 (Nat.le_of_ble_eq_true rfl) ⟨(Nat.le_of_ble_eq_true rfl), (Nat.le_of_ble_eq_true rfl)⟩ dX2_init_16 dX2_init_19 dX2_init_20 (fun ad f H locs he hfr hX hw => ?_)
  have hw : np_W D (ix_L ad (n + 5)) f (np_A (ix_L ad0 n) sz) s.heap H locs := hw
  have hinj := fun {i j : Nat} => ix_inj hw.2.1 (i := i) (j := j)
  have hF : f (ad p0) = .inr (2, [.int 0, .ref (ad n), .null, .null, .null, .null, .null, .null, .null, .null, .null, .null]) := by rw [hfr p0 (by omega), hF, he n (by omega)]
  have FX0 := tr_W he hfr (by omega) FX0
  have hE : ix_e n ad0 ad := fun i hi => (he i (by omega)).trans (hE i hi)
  have hO : ∀ i, i < n → i ≠ p0 → f (ad i) = f0 (ad0 i) := fun i h1 h2 => (hfr i (by omega)).trans (hO i h1 h2)
  have FX1 := hX
  refine np_putF (C0 := RX2) (T0 := TX2) (N := 12) (ci := 2) (ty := .object "BallDesk$Division") C (by decide +kernel) tyX2 tyX2_ok nmX2 hw (by first | exact ix_in (by omega) | (rw [← hE p0 hp]; exact ix_in (by omega))) (by first | exact hF | (rw [← hE p0 hp]; exact hF)) rfl 2 (by decide) (by decide +kernel) rfl rfl rfl (by decide +kernel) rfl rfl (Nat.le_of_ble_eq_true rfl) dX2_init_23 (fun H locs hw => ?_)
  rw [← hE p0 hp] at hw
  obtain ⟨f1, hf1⟩ : ∃ g, g = va_up f (ad p0) (.inr (2, [.int 0, .ref (ad n), .ref (ad (n + 2)), .null, .null, .null, .null, .null, .null, .null, .null, .null])) := ⟨_, rfl⟩
  have hw : np_W D (ix_L ad (n + 5)) f1 (np_A (ix_L ad0 n) sz) s.heap H locs := by rw [hf1]; exact hw
  have hF : f1 (ad p0) = .inr (2, [.int 0, .ref (ad n), .ref (ad (n + 2)), .null, .null, .null, .null, .null, .null, .null, .null, .null]) := by rw [hf1]; exact va_up_self _ _ _
  have hfr : ∀ i, i < n + 5 → i ≠ p0 → f1 (ad i) = f (ad i) := fun i h1 h2 => by rw [hf1]; exact va_up_ne _ _ (fun h => h2 (hinj h1 (by omega) h))
  have FX0 := tp_W hfr (by omega) (by omega) FX0
  have FX1 := tp_D hfr (by omega) (by omega) FX1
  have hO : ∀ i, i < n → i ≠ p0 → f1 (ad i) = f0 (ad0 i) := fun i h1 h2 => (hfr i (by omega) h2).trans (hO i h1 h2)
  clear hf1 hfr
  generalize f1 = f at *
  refine lv_aload_n hx hb dX2_init_26 rfl (lv_at hl 0 rfl) ?_
  refine ix_mk (C0 := RX3) (T0 := TX3) (N := 3) (ci := 3) (fs := [.null, .int 0, .int 0]) (k := 1) (X := ix_XW T) (host := "BallDesk") (fun n ad f sz p0 h1 h2 => i3_init l D T n ad f sz p0 h1 h2) C (by decide +kernel) tyX3 tyX3_ok (by decide +kernel) (by decide +kernel) (by decide +kernel) hsz hw rfl (fun j hj => by rcases (show j = 0 ∨ j = 1 ∨ j = 2 by omega) with rfl | rfl | rfl <;> rfl) ⟨va_cnB 0 hts gX2_init_X3_init_n9 rfl rfl rfl (hNs _ (by decide +kernel)) (hts (.initialized RX3) (by decide +kernel)) (by decide +kernel) ⟨(Nat.le_of_ble_eq_true rfl), (Nat.le_of_ble_eq_true rfl)⟩, rfl, hts (.instanceMethod yX3_init) (by decide +kernel)⟩ hl.1 (Nat.le_of_ble_eq_true rfl) ⟨(Nat.le_of_ble_eq_true rfl), (Nat.le_of_ble_eq_true rfl)⟩ dX2_init_27 dX2_init_30 dX2_init_31 (fun ad f H locs he hfr hX hw => ?_)
  have hw : np_W D (ix_L ad (n + 7)) f (np_A (ix_L ad0 n) sz) s.heap H locs := hw
  have hinj := fun {i j : Nat} => ix_inj hw.2.1 (i := i) (j := j)
  have hF : f (ad p0) = .inr (2, [.int 0, .ref (ad n), .ref (ad (n + 2)), .null, .null, .null, .null, .null, .null, .null, .null, .null]) := by rw [hfr p0 (by omega), hF, he n (by omega), he (n + 2) (by omega)]
  have FX0 := tr_W he hfr (by omega) FX0
  have FX1 := tr_D he hfr (by omega) FX1
  have hE : ix_e n ad0 ad := fun i hi => (he i (by omega)).trans (hE i hi)
  have hO : ∀ i, i < n → i ≠ p0 → f (ad i) = f0 (ad0 i) := fun i h1 h2 => (hfr i (by omega)).trans (hO i h1 h2)
  have FX2 := hX
  refine np_putF (C0 := RX2) (T0 := TX2) (N := 12) (ci := 2) (ty := .object "BallDesk$Whole") C (by decide +kernel) tyX2 tyX2_ok nmX2 hw (by first | exact ix_in (by omega) | (rw [← hE p0 hp]; exact ix_in (by omega))) (by first | exact hF | (rw [← hE p0 hp]; exact hF)) rfl 3 (by decide) (by decide +kernel) rfl rfl rfl (by decide +kernel) rfl rfl (Nat.le_of_ble_eq_true rfl) dX2_init_34 (fun H locs hw => ?_)
  rw [← hE p0 hp] at hw
  obtain ⟨f1, hf1⟩ : ∃ g, g = va_up f (ad p0) (.inr (2, [.int 0, .ref (ad n), .ref (ad (n + 2)), .ref (ad (n + 5)), .null, .null, .null, .null, .null, .null, .null, .null])) := ⟨_, rfl⟩
  have hw : np_W D (ix_L ad (n + 7)) f1 (np_A (ix_L ad0 n) sz) s.heap H locs := by rw [hf1]; exact hw
  have hF : f1 (ad p0) = .inr (2, [.int 0, .ref (ad n), .ref (ad (n + 2)), .ref (ad (n + 5)), .null, .null, .null, .null, .null, .null, .null, .null]) := by rw [hf1]; exact va_up_self _ _ _
  have hfr : ∀ i, i < n + 7 → i ≠ p0 → f1 (ad i) = f (ad i) := fun i h1 h2 => by rw [hf1]; exact va_up_ne _ _ (fun h => h2 (hinj h1 (by omega) h))
  have FX0 := tp_W hfr (by omega) (by omega) FX0
  have FX1 := tp_D hfr (by omega) (by omega) FX1
  have FX2 := tp_W hfr (by omega) (by omega) FX2
  have hO : ∀ i, i < n → i ≠ p0 → f1 (ad i) = f0 (ad0 i) := fun i h1 h2 => (hfr i (by omega) h2).trans (hO i h1 h2)
  clear hf1 hfr
  generalize f1 = f at *
  refine lv_aload_n hx hb dX2_init_37 rfl (lv_at hl 0 rfl) ?_
  refine ix_mk (C0 := RX3) (T0 := TX3) (N := 3) (ci := 3) (fs := [.null, .int 0, .int 0]) (k := 1) (X := ix_XW T) (host := "BallDesk") (fun n ad f sz p0 h1 h2 => i3_init l D T n ad f sz p0 h1 h2) C (by decide +kernel) tyX3 tyX3_ok (by decide +kernel) (by decide +kernel) (by decide +kernel) hsz hw rfl (fun j hj => by rcases (show j = 0 ∨ j = 1 ∨ j = 2 by omega) with rfl | rfl | rfl <;> rfl) ⟨va_cnB 0 hts gX2_init_X3_init_n9 rfl rfl rfl (hNs _ (by decide +kernel)) (hts (.initialized RX3) (by decide +kernel)) (by decide +kernel) ⟨(Nat.le_of_ble_eq_true rfl), (Nat.le_of_ble_eq_true rfl)⟩, rfl, hts (.instanceMethod yX3_init) (by decide +kernel)⟩ hl.1 (Nat.le_of_ble_eq_true rfl) ⟨(Nat.le_of_ble_eq_true rfl), (Nat.le_of_ble_eq_true rfl)⟩ dX2_init_38 dX2_init_41 dX2_init_42 (fun ad f H locs he hfr hX hw => ?_)
  have hw : np_W D (ix_L ad (n + 9)) f (np_A (ix_L ad0 n) sz) s.heap H locs := hw
  have hinj := fun {i j : Nat} => ix_inj hw.2.1 (i := i) (j := j)
  have hF : f (ad p0) = .inr (2, [.int 0, .ref (ad n), .ref (ad (n + 2)), .ref (ad (n + 5)), .null, .null, .null, .null, .null, .null, .null, .null]) := by rw [hfr p0 (by omega), hF, he n (by omega), he (n + 2) (by omega), he (n + 5) (by omega)]
  have FX0 := tr_W he hfr (by omega) FX0
  have FX1 := tr_D he hfr (by omega) FX1
  have FX2 := tr_W he hfr (by omega) FX2
  have hE : ix_e n ad0 ad := fun i hi => (he i (by omega)).trans (hE i hi)
  have hO : ∀ i, i < n → i ≠ p0 → f (ad i) = f0 (ad0 i) := fun i h1 h2 => (hfr i (by omega)).trans (hO i h1 h2)
  have FX3 := hX
  refine np_putF (C0 := RX2) (T0 := TX2) (N := 12) (ci := 2) (ty := .object "BallDesk$Whole") C (by decide +kernel) tyX2 tyX2_ok nmX2 hw (by first | exact ix_in (by omega) | (rw [← hE p0 hp]; exact ix_in (by omega))) (by first | exact hF | (rw [← hE p0 hp]; exact hF)) rfl 4 (by decide) (by decide +kernel) rfl rfl rfl (by decide +kernel) rfl rfl (Nat.le_of_ble_eq_true rfl) dX2_init_45 (fun H locs hw => ?_)
  rw [← hE p0 hp] at hw
  obtain ⟨f1, hf1⟩ : ∃ g, g = va_up f (ad p0) (.inr (2, [.int 0, .ref (ad n), .ref (ad (n + 2)), .ref (ad (n + 5)), .ref (ad (n + 7)), .null, .null, .null, .null, .null, .null, .null])) := ⟨_, rfl⟩
  have hw : np_W D (ix_L ad (n + 9)) f1 (np_A (ix_L ad0 n) sz) s.heap H locs := by rw [hf1]; exact hw
  have hF : f1 (ad p0) = .inr (2, [.int 0, .ref (ad n), .ref (ad (n + 2)), .ref (ad (n + 5)), .ref (ad (n + 7)), .null, .null, .null, .null, .null, .null, .null]) := by rw [hf1]; exact va_up_self _ _ _
  have hfr : ∀ i, i < n + 9 → i ≠ p0 → f1 (ad i) = f (ad i) := fun i h1 h2 => by rw [hf1]; exact va_up_ne _ _ (fun h => h2 (hinj h1 (by omega) h))
  have FX0 := tp_W hfr (by omega) (by omega) FX0
  have FX1 := tp_D hfr (by omega) (by omega) FX1
  have FX2 := tp_W hfr (by omega) (by omega) FX2
  have FX3 := tp_W hfr (by omega) (by omega) FX3
  have hO : ∀ i, i < n → i ≠ p0 → f1 (ad i) = f0 (ad0 i) := fun i h1 h2 => (hfr i (by omega) h2).trans (hO i h1 h2)
  clear hf1 hfr
  generalize f1 = f at *
  refine lv_aload_n hx hb dX2_init_48 rfl (lv_at hl 0 rfl) ?_
  refine ix_mk (C0 := RX3) (T0 := TX3) (N := 3) (ci := 3) (fs := [.null, .int 0, .int 0]) (k := 1) (X := ix_XW T) (host := "BallDesk") (fun n ad f sz p0 h1 h2 => i3_init l D T n ad f sz p0 h1 h2) C (by decide +kernel) tyX3 tyX3_ok (by decide +kernel) (by decide +kernel) (by decide +kernel) hsz hw rfl (fun j hj => by rcases (show j = 0 ∨ j = 1 ∨ j = 2 by omega) with rfl | rfl | rfl <;> rfl) ⟨va_cnB 0 hts gX2_init_X3_init_n9 rfl rfl rfl (hNs _ (by decide +kernel)) (hts (.initialized RX3) (by decide +kernel)) (by decide +kernel) ⟨(Nat.le_of_ble_eq_true rfl), (Nat.le_of_ble_eq_true rfl)⟩, rfl, hts (.instanceMethod yX3_init) (by decide +kernel)⟩ hl.1 (Nat.le_of_ble_eq_true rfl) ⟨(Nat.le_of_ble_eq_true rfl), (Nat.le_of_ble_eq_true rfl)⟩ dX2_init_49 dX2_init_52 dX2_init_53 (fun ad f H locs he hfr hX hw => ?_)
  have hw : np_W D (ix_L ad (n + 11)) f (np_A (ix_L ad0 n) sz) s.heap H locs := hw
  have hinj := fun {i j : Nat} => ix_inj hw.2.1 (i := i) (j := j)
  have hF : f (ad p0) = .inr (2, [.int 0, .ref (ad n), .ref (ad (n + 2)), .ref (ad (n + 5)), .ref (ad (n + 7)), .null, .null, .null, .null, .null, .null, .null]) := by rw [hfr p0 (by omega), hF, he n (by omega), he (n + 2) (by omega), he (n + 5) (by omega), he (n + 7) (by omega)]
  have FX0 := tr_W he hfr (by omega) FX0
  have FX1 := tr_D he hfr (by omega) FX1
  have FX2 := tr_W he hfr (by omega) FX2
  have FX3 := tr_W he hfr (by omega) FX3
  have hE : ix_e n ad0 ad := fun i hi => (he i (by omega)).trans (hE i hi)
  have hO : ∀ i, i < n → i ≠ p0 → f (ad i) = f0 (ad0 i) := fun i h1 h2 => (hfr i (by omega)).trans (hO i h1 h2)
  have FX4 := hX
  refine np_putF (C0 := RX2) (T0 := TX2) (N := 12) (ci := 2) (ty := .object "BallDesk$Whole") C (by decide +kernel) tyX2 tyX2_ok nmX2 hw (by first | exact ix_in (by omega) | (rw [← hE p0 hp]; exact ix_in (by omega))) (by first | exact hF | (rw [← hE p0 hp]; exact hF)) rfl 5 (by decide) (by decide +kernel) rfl rfl rfl (by decide +kernel) rfl rfl (Nat.le_of_ble_eq_true rfl) dX2_init_56 (fun H locs hw => ?_)
  rw [← hE p0 hp] at hw
  obtain ⟨f1, hf1⟩ : ∃ g, g = va_up f (ad p0) (.inr (2, [.int 0, .ref (ad n), .ref (ad (n + 2)), .ref (ad (n + 5)), .ref (ad (n + 7)), .ref (ad (n + 9)), .null, .null, .null, .null, .null, .null])) := ⟨_, rfl⟩
  have hw : np_W D (ix_L ad (n + 11)) f1 (np_A (ix_L ad0 n) sz) s.heap H locs := by rw [hf1]; exact hw
  have hF : f1 (ad p0) = .inr (2, [.int 0, .ref (ad n), .ref (ad (n + 2)), .ref (ad (n + 5)), .ref (ad (n + 7)), .ref (ad (n + 9)), .null, .null, .null, .null, .null, .null]) := by rw [hf1]; exact va_up_self _ _ _
  have hfr : ∀ i, i < n + 11 → i ≠ p0 → f1 (ad i) = f (ad i) := fun i h1 h2 => by rw [hf1]; exact va_up_ne _ _ (fun h => h2 (hinj h1 (by omega) h))
  have FX0 := tp_W hfr (by omega) (by omega) FX0
  have FX1 := tp_D hfr (by omega) (by omega) FX1
  have FX2 := tp_W hfr (by omega) (by omega) FX2
  have FX3 := tp_W hfr (by omega) (by omega) FX3
  have FX4 := tp_W hfr (by omega) (by omega) FX4
  have hO : ∀ i, i < n → i ≠ p0 → f1 (ad i) = f0 (ad0 i) := fun i h1 h2 => (hfr i (by omega) h2).trans (hO i h1 h2)
  clear hf1 hfr
  generalize f1 = f at *
  refine lv_aload_n hx hb dX2_init_59 rfl (lv_at hl 0 rfl) ?_
  refine ix_mk (C0 := RX3) (T0 := TX3) (N := 3) (ci := 3) (fs := [.null, .int 0, .int 0]) (k := 1) (X := ix_XW T) (host := "BallDesk") (fun n ad f sz p0 h1 h2 => i3_init l D T n ad f sz p0 h1 h2) C (by decide +kernel) tyX3 tyX3_ok (by decide +kernel) (by decide +kernel) (by decide +kernel) hsz hw rfl (fun j hj => by rcases (show j = 0 ∨ j = 1 ∨ j = 2 by omega) with rfl | rfl | rfl <;> rfl) ⟨va_cnB 0 hts gX2_init_X3_init_n9 rfl rfl rfl (hNs _ (by decide +kernel)) (hts (.initialized RX3) (by decide +kernel)) (by decide +kernel) ⟨(Nat.le_of_ble_eq_true rfl), (Nat.le_of_ble_eq_true rfl)⟩, rfl, hts (.instanceMethod yX3_init) (by decide +kernel)⟩ hl.1 (Nat.le_of_ble_eq_true rfl) ⟨(Nat.le_of_ble_eq_true rfl), (Nat.le_of_ble_eq_true rfl)⟩ dX2_init_60 dX2_init_63 dX2_init_64 (fun ad f H locs he hfr hX hw => ?_)
  have hw : np_W D (ix_L ad (n + 13)) f (np_A (ix_L ad0 n) sz) s.heap H locs := hw
  have hinj := fun {i j : Nat} => ix_inj hw.2.1 (i := i) (j := j)
  have hF : f (ad p0) = .inr (2, [.int 0, .ref (ad n), .ref (ad (n + 2)), .ref (ad (n + 5)), .ref (ad (n + 7)), .ref (ad (n + 9)), .null, .null, .null, .null, .null, .null]) := by rw [hfr p0 (by omega), hF, he n (by omega), he (n + 7) (by omega), he (n + 9) (by omega), he (n + 5) (by omega), he (n + 2) (by omega)]
  have FX0 := tr_W he hfr (by omega) FX0
  have FX1 := tr_D he hfr (by omega) FX1
  have FX2 := tr_W he hfr (by omega) FX2
  have FX3 := tr_W he hfr (by omega) FX3
  have FX4 := tr_W he hfr (by omega) FX4
  have hE : ix_e n ad0 ad := fun i hi => (he i (by omega)).trans (hE i hi)
  have hO : ∀ i, i < n → i ≠ p0 → f (ad i) = f0 (ad0 i) := fun i h1 h2 => (hfr i (by omega)).trans (hO i h1 h2)
  have FX5 := hX
  refine np_putF (C0 := RX2) (T0 := TX2) (N := 12) (ci := 2) (ty := .object "BallDesk$Whole") C (by decide +kernel) tyX2 tyX2_ok nmX2 hw (by first | exact ix_in (by omega) | (rw [← hE p0 hp]; exact ix_in (by omega))) (by first | exact hF | (rw [← hE p0 hp]; exact hF)) rfl 6 (by decide) (by decide +kernel) rfl rfl rfl (by decide +kernel) rfl rfl (Nat.le_of_ble_eq_true rfl) dX2_init_67 (fun H locs hw => ?_)
  rw [← hE p0 hp] at hw
  obtain ⟨f1, hf1⟩ : ∃ g, g = va_up f (ad p0) (.inr (2, [.int 0, .ref (ad n), .ref (ad (n + 2)), .ref (ad (n + 5)), .ref (ad (n + 7)), .ref (ad (n + 9)), .ref (ad (n + 11)), .null, .null, .null, .null, .null])) := ⟨_, rfl⟩
  have hw : np_W D (ix_L ad (n + 13)) f1 (np_A (ix_L ad0 n) sz) s.heap H locs := by rw [hf1]; exact hw
  have hF : f1 (ad p0) = .inr (2, [.int 0, .ref (ad n), .ref (ad (n + 2)), .ref (ad (n + 5)), .ref (ad (n + 7)), .ref (ad (n + 9)), .ref (ad (n + 11)), .null, .null, .null, .null, .null]) := by rw [hf1]; exact va_up_self _ _ _
  have hfr : ∀ i, i < n + 13 → i ≠ p0 → f1 (ad i) = f (ad i) := fun i h1 h2 => by rw [hf1]; exact va_up_ne _ _ (fun h => h2 (hinj h1 (by omega) h))
  have FX0 := tp_W hfr (by omega) (by omega) FX0
  have FX1 := tp_D hfr (by omega) (by omega) FX1
  have FX2 := tp_W hfr (by omega) (by omega) FX2
  have FX3 := tp_W hfr (by omega) (by omega) FX3
  have FX4 := tp_W hfr (by omega) (by omega) FX4
  have FX5 := tp_W hfr (by omega) (by omega) FX5
  have hO : ∀ i, i < n → i ≠ p0 → f1 (ad i) = f0 (ad0 i) := fun i h1 h2 => (hfr i (by omega) h2).trans (hO i h1 h2)
  clear hf1 hfr
  generalize f1 = f at *
  refine lv_aload_n hx hb dX2_init_70 rfl (lv_at hl 0 rfl) ?_
  refine ix_mk (C0 := RX3) (T0 := TX3) (N := 3) (ci := 3) (fs := [.null, .int 0, .int 0]) (k := 1) (X := ix_XW T) (host := "BallDesk") (fun n ad f sz p0 h1 h2 => i3_init l D T n ad f sz p0 h1 h2) C (by decide +kernel) tyX3 tyX3_ok (by decide +kernel) (by decide +kernel) (by decide +kernel) hsz hw rfl (fun j hj => by rcases (show j = 0 ∨ j = 1 ∨ j = 2 by omega) with rfl | rfl | rfl <;> rfl) ⟨va_cnB 0 hts gX2_init_X3_init_n9 rfl rfl rfl (hNs _ (by decide +kernel)) (hts (.initialized RX3) (by decide +kernel)) (by decide +kernel) ⟨(Nat.le_of_ble_eq_true rfl), (Nat.le_of_ble_eq_true rfl)⟩, rfl, hts (.instanceMethod yX3_init) (by decide +kernel)⟩ hl.1 (Nat.le_of_ble_eq_true rfl) ⟨(Nat.le_of_ble_eq_true rfl), (Nat.le_of_ble_eq_true rfl)⟩ dX2_init_71 dX2_init_74 dX2_init_75 (fun ad f H locs he hfr hX hw => ?_)
  have hw : np_W D (ix_L ad (n + 15)) f (np_A (ix_L ad0 n) sz) s.heap H locs := hw
  have hinj := fun {i j : Nat} => ix_inj hw.2.1 (i := i) (j := j)
  have hF : f (ad p0) = .inr (2, [.int 0, .ref (ad n), .ref (ad (n + 2)), .ref (ad (n + 5)), .ref (ad (n + 7)), .ref (ad (n + 9)), .ref (ad (n + 11)), .null, .null, .null, .null, .null]) := by rw [hfr p0 (by omega), hF, he n (by omega), he (n + 7) (by omega), he (n + 9) (by omega), he (n + 5) (by omega), he (n + 2) (by omega), he (n + 11) (by omega)]
  have FX0 := tr_W he hfr (by omega) FX0
  have FX1 := tr_D he hfr (by omega) FX1
  have FX2 := tr_W he hfr (by omega) FX2
  have FX3 := tr_W he hfr (by omega) FX3
  have FX4 := tr_W he hfr (by omega) FX4
  have FX5 := tr_W he hfr (by omega) FX5
  have hE : ix_e n ad0 ad := fun i hi => (he i (by omega)).trans (hE i hi)
  have hO : ∀ i, i < n → i ≠ p0 → f (ad i) = f0 (ad0 i) := fun i h1 h2 => (hfr i (by omega)).trans (hO i h1 h2)
  have FX6 := hX
  refine np_putF (C0 := RX2) (T0 := TX2) (N := 12) (ci := 2) (ty := .object "BallDesk$Whole") C (by decide +kernel) tyX2 tyX2_ok nmX2 hw (by first | exact ix_in (by omega) | (rw [← hE p0 hp]; exact ix_in (by omega))) (by first | exact hF | (rw [← hE p0 hp]; exact hF)) rfl 7 (by decide) (by decide +kernel) rfl rfl rfl (by decide +kernel) rfl rfl (Nat.le_of_ble_eq_true rfl) dX2_init_78 (fun H locs hw => ?_)
  rw [← hE p0 hp] at hw
  obtain ⟨f1, hf1⟩ : ∃ g, g = va_up f (ad p0) (.inr (2, [.int 0, .ref (ad n), .ref (ad (n + 2)), .ref (ad (n + 5)), .ref (ad (n + 7)), .ref (ad (n + 9)), .ref (ad (n + 11)), .ref (ad (n + 13)), .null, .null, .null, .null])) := ⟨_, rfl⟩
  have hw : np_W D (ix_L ad (n + 15)) f1 (np_A (ix_L ad0 n) sz) s.heap H locs := by rw [hf1]; exact hw
  have hF : f1 (ad p0) = .inr (2, [.int 0, .ref (ad n), .ref (ad (n + 2)), .ref (ad (n + 5)), .ref (ad (n + 7)), .ref (ad (n + 9)), .ref (ad (n + 11)), .ref (ad (n + 13)), .null, .null, .null, .null]) := by rw [hf1]; exact va_up_self _ _ _
  have hfr : ∀ i, i < n + 15 → i ≠ p0 → f1 (ad i) = f (ad i) := fun i h1 h2 => by rw [hf1]; exact va_up_ne _ _ (fun h => h2 (hinj h1 (by omega) h))
  have FX0 := tp_W hfr (by omega) (by omega) FX0
  have FX1 := tp_D hfr (by omega) (by omega) FX1
  have FX2 := tp_W hfr (by omega) (by omega) FX2
  have FX3 := tp_W hfr (by omega) (by omega) FX3
  have FX4 := tp_W hfr (by omega) (by omega) FX4
  have FX5 := tp_W hfr (by omega) (by omega) FX5
  have FX6 := tp_W hfr (by omega) (by omega) FX6
  have hO : ∀ i, i < n → i ≠ p0 → f1 (ad i) = f0 (ad0 i) := fun i h1 h2 => (hfr i (by omega) h2).trans (hO i h1 h2)
  clear hf1 hfr
  generalize f1 = f at *
  refine lv_aload_n hx hb dX2_init_81 rfl (lv_at hl 0 rfl) ?_
  refine ix_mk (C0 := RX3) (T0 := TX3) (N := 3) (ci := 3) (fs := [.null, .int 0, .int 0]) (k := 1) (X := ix_XW T) (host := "BallDesk") (fun n ad f sz p0 h1 h2 => i3_init l D T n ad f sz p0 h1 h2) C (by decide +kernel) tyX3 tyX3_ok (by decide +kernel) (by decide +kernel) (by decide +kernel) hsz hw rfl (fun j hj => by rcases (show j = 0 ∨ j = 1 ∨ j = 2 by omega) with rfl | rfl | rfl <;> rfl) ⟨va_cnB 0 hts gX2_init_X3_init_n9 rfl rfl rfl (hNs _ (by decide +kernel)) (hts (.initialized RX3) (by decide +kernel)) (by decide +kernel) ⟨(Nat.le_of_ble_eq_true rfl), (Nat.le_of_ble_eq_true rfl)⟩, rfl, hts (.instanceMethod yX3_init) (by decide +kernel)⟩ hl.1 (Nat.le_of_ble_eq_true rfl) ⟨(Nat.le_of_ble_eq_true rfl), (Nat.le_of_ble_eq_true rfl)⟩ dX2_init_82 dX2_init_85 dX2_init_86 (fun ad f H locs he hfr hX hw => ?_)
  have hw : np_W D (ix_L ad (n + 17)) f (np_A (ix_L ad0 n) sz) s.heap H locs := hw
  have hinj := fun {i j : Nat} => ix_inj hw.2.1 (i := i) (j := j)
  have hF : f (ad p0) = .inr (2, [.int 0, .ref (ad n), .ref (ad (n + 2)), .ref (ad (n + 5)), .ref (ad (n + 7)), .ref (ad (n + 9)), .ref (ad (n + 11)), .ref (ad (n + 13)), .null, .null, .null, .null]) := by rw [hfr p0 (by omega), hF, he n (by omega), he (n + 7) (by omega), he (n + 9) (by omega), he (n + 5) (by omega), he (n + 2) (by omega), he (n + 13) (by omega), he (n + 11) (by omega)]
  have FX0 := tr_W he hfr (by omega) FX0
  have FX1 := tr_D he hfr (by omega) FX1
  have FX2 := tr_W he hfr (by omega) FX2
  have FX3 := tr_W he hfr (by omega) FX3
  have FX4 := tr_W he hfr (by omega) FX4
  have FX5 := tr_W he hfr (by omega) FX5
  have FX6 := tr_W he hfr (by omega) FX6
  have hE : ix_e n ad0 ad := fun i hi => (he i (by omega)).trans (hE i hi)
  have hO : ∀ i, i < n → i ≠ p0 → f (ad i) = f0 (ad0 i) := fun i h1 h2 => (hfr i (by omega)).trans (hO i h1 h2)
  have FX7 := hX
  refine np_putF (C0 := RX2) (T0 := TX2) (N := 12) (ci := 2) (ty := .object "BallDesk$Whole") C (by decide +kernel) tyX2 tyX2_ok nmX2 hw (by first | exact ix_in (by omega) | (rw [← hE p0 hp]; exact ix_in (by omega))) (by first | exact hF | (rw [← hE p0 hp]; exact hF)) rfl 8 (by decide) (by decide +kernel) rfl rfl rfl (by decide +kernel) rfl rfl (Nat.le_of_ble_eq_true rfl) dX2_init_89 (fun H locs hw => ?_)
  rw [← hE p0 hp] at hw
  obtain ⟨f1, hf1⟩ : ∃ g, g = va_up f (ad p0) (.inr (2, [.int 0, .ref (ad n), .ref (ad (n + 2)), .ref (ad (n + 5)), .ref (ad (n + 7)), .ref (ad (n + 9)), .ref (ad (n + 11)), .ref (ad (n + 13)), .ref (ad (n + 15)), .null, .null, .null])) := ⟨_, rfl⟩
  have hw : np_W D (ix_L ad (n + 17)) f1 (np_A (ix_L ad0 n) sz) s.heap H locs := by rw [hf1]; exact hw
  have hF : f1 (ad p0) = .inr (2, [.int 0, .ref (ad n), .ref (ad (n + 2)), .ref (ad (n + 5)), .ref (ad (n + 7)), .ref (ad (n + 9)), .ref (ad (n + 11)), .ref (ad (n + 13)), .ref (ad (n + 15)), .null, .null, .null]) := by rw [hf1]; exact va_up_self _ _ _
  have hfr : ∀ i, i < n + 17 → i ≠ p0 → f1 (ad i) = f (ad i) := fun i h1 h2 => by rw [hf1]; exact va_up_ne _ _ (fun h => h2 (hinj h1 (by omega) h))
  have FX0 := tp_W hfr (by omega) (by omega) FX0
  have FX1 := tp_D hfr (by omega) (by omega) FX1
  have FX2 := tp_W hfr (by omega) (by omega) FX2
  have FX3 := tp_W hfr (by omega) (by omega) FX3
  have FX4 := tp_W hfr (by omega) (by omega) FX4
  have FX5 := tp_W hfr (by omega) (by omega) FX5
  have FX6 := tp_W hfr (by omega) (by omega) FX6
  have FX7 := tp_W hfr (by omega) (by omega) FX7
  have hO : ∀ i, i < n → i ≠ p0 → f1 (ad i) = f0 (ad0 i) := fun i h1 h2 => (hfr i (by omega) h2).trans (hO i h1 h2)
  clear hf1 hfr
  generalize f1 = f at *
  refine lv_aload_n hx hb dX2_init_92 rfl (lv_at hl 0 rfl) ?_
  refine ix_mk (C0 := RX3) (T0 := TX3) (N := 3) (ci := 3) (fs := [.null, .int 0, .int 0]) (k := 1) (X := ix_XW T) (host := "BallDesk") (fun n ad f sz p0 h1 h2 => i3_init l D T n ad f sz p0 h1 h2) C (by decide +kernel) tyX3 tyX3_ok (by decide +kernel) (by decide +kernel) (by decide +kernel) hsz hw rfl (fun j hj => by rcases (show j = 0 ∨ j = 1 ∨ j = 2 by omega) with rfl | rfl | rfl <;> rfl) ⟨va_cnB 0 hts gX2_init_X3_init_n9 rfl rfl rfl (hNs _ (by decide +kernel)) (hts (.initialized RX3) (by decide +kernel)) (by decide +kernel) ⟨(Nat.le_of_ble_eq_true rfl), (Nat.le_of_ble_eq_true rfl)⟩, rfl, hts (.instanceMethod yX3_init) (by decide +kernel)⟩ hl.1 (Nat.le_of_ble_eq_true rfl) ⟨(Nat.le_of_ble_eq_true rfl), (Nat.le_of_ble_eq_true rfl)⟩ dX2_init_93 dX2_init_96 dX2_init_97 (fun ad f H locs he hfr hX hw => ?_)
  have hw : np_W D (ix_L ad (n + 19)) f (np_A (ix_L ad0 n) sz) s.heap H locs := hw
  have hinj := fun {i j : Nat} => ix_inj hw.2.1 (i := i) (j := j)
  have hF : f (ad p0) = .inr (2, [.int 0, .ref (ad n), .ref (ad (n + 2)), .ref (ad (n + 5)), .ref (ad (n + 7)), .ref (ad (n + 9)), .ref (ad (n + 11)), .ref (ad (n + 13)), .ref (ad (n + 15)), .null, .null, .null]) := by rw [hfr p0 (by omega), hF, he n (by omega), he (n + 7) (by omega), he (n + 9) (by omega), he (n + 5) (by omega), he (n + 2) (by omega), he (n + 13) (by omega), he (n + 15) (by omega), he (n + 11) (by omega)]
  have FX0 := tr_W he hfr (by omega) FX0
  have FX1 := tr_D he hfr (by omega) FX1
  have FX2 := tr_W he hfr (by omega) FX2
  have FX3 := tr_W he hfr (by omega) FX3
  have FX4 := tr_W he hfr (by omega) FX4
  have FX5 := tr_W he hfr (by omega) FX5
  have FX6 := tr_W he hfr (by omega) FX6
  have FX7 := tr_W he hfr (by omega) FX7
  have hE : ix_e n ad0 ad := fun i hi => (he i (by omega)).trans (hE i hi)
  have hO : ∀ i, i < n → i ≠ p0 → f (ad i) = f0 (ad0 i) := fun i h1 h2 => (hfr i (by omega)).trans (hO i h1 h2)
  have FX8 := hX
  refine np_putF (C0 := RX2) (T0 := TX2) (N := 12) (ci := 2) (ty := .object "BallDesk$Whole") C (by decide +kernel) tyX2 tyX2_ok nmX2 hw (by first | exact ix_in (by omega) | (rw [← hE p0 hp]; exact ix_in (by omega))) (by first | exact hF | (rw [← hE p0 hp]; exact hF)) rfl 9 (by decide) (by decide +kernel) rfl rfl rfl (by decide +kernel) rfl rfl (Nat.le_of_ble_eq_true rfl) dX2_init_100 (fun H locs hw => ?_)
  rw [← hE p0 hp] at hw
  obtain ⟨f1, hf1⟩ : ∃ g, g = va_up f (ad p0) (.inr (2, [.int 0, .ref (ad n), .ref (ad (n + 2)), .ref (ad (n + 5)), .ref (ad (n + 7)), .ref (ad (n + 9)), .ref (ad (n + 11)), .ref (ad (n + 13)), .ref (ad (n + 15)), .ref (ad (n + 17)), .null, .null])) := ⟨_, rfl⟩
  have hw : np_W D (ix_L ad (n + 19)) f1 (np_A (ix_L ad0 n) sz) s.heap H locs := by rw [hf1]; exact hw
  have hF : f1 (ad p0) = .inr (2, [.int 0, .ref (ad n), .ref (ad (n + 2)), .ref (ad (n + 5)), .ref (ad (n + 7)), .ref (ad (n + 9)), .ref (ad (n + 11)), .ref (ad (n + 13)), .ref (ad (n + 15)), .ref (ad (n + 17)), .null, .null]) := by rw [hf1]; exact va_up_self _ _ _
  have hfr : ∀ i, i < n + 19 → i ≠ p0 → f1 (ad i) = f (ad i) := fun i h1 h2 => by rw [hf1]; exact va_up_ne _ _ (fun h => h2 (hinj h1 (by omega) h))
  have FX0 := tp_W hfr (by omega) (by omega) FX0
  have FX1 := tp_D hfr (by omega) (by omega) FX1
  have FX2 := tp_W hfr (by omega) (by omega) FX2
  have FX3 := tp_W hfr (by omega) (by omega) FX3
  have FX4 := tp_W hfr (by omega) (by omega) FX4
  have FX5 := tp_W hfr (by omega) (by omega) FX5
  have FX6 := tp_W hfr (by omega) (by omega) FX6
  have FX7 := tp_W hfr (by omega) (by omega) FX7
  have FX8 := tp_W hfr (by omega) (by omega) FX8
  have hO : ∀ i, i < n → i ≠ p0 → f1 (ad i) = f0 (ad0 i) := fun i h1 h2 => (hfr i (by omega) h2).trans (hO i h1 h2)
  clear hf1 hfr
  generalize f1 = f at *
  refine lv_aload_n hx hb dX2_init_103 rfl (lv_at hl 0 rfl) ?_
  refine ix_mk (C0 := RX3) (T0 := TX3) (N := 3) (ci := 3) (fs := [.null, .int 0, .int 0]) (k := 1) (X := ix_XW T) (host := "BallDesk") (fun n ad f sz p0 h1 h2 => i3_init l D T n ad f sz p0 h1 h2) C (by decide +kernel) tyX3 tyX3_ok (by decide +kernel) (by decide +kernel) (by decide +kernel) hsz hw rfl (fun j hj => by rcases (show j = 0 ∨ j = 1 ∨ j = 2 by omega) with rfl | rfl | rfl <;> rfl) ⟨va_cnB 0 hts gX2_init_X3_init_n9 rfl rfl rfl (hNs _ (by decide +kernel)) (hts (.initialized RX3) (by decide +kernel)) (by decide +kernel) ⟨(Nat.le_of_ble_eq_true rfl), (Nat.le_of_ble_eq_true rfl)⟩, rfl, hts (.instanceMethod yX3_init) (by decide +kernel)⟩ hl.1 (Nat.le_of_ble_eq_true rfl) ⟨(Nat.le_of_ble_eq_true rfl), (Nat.le_of_ble_eq_true rfl)⟩ dX2_init_104 dX2_init_107 dX2_init_108 (fun ad f H locs he hfr hX hw => ?_)
  have hw : np_W D (ix_L ad (n + 21)) f (np_A (ix_L ad0 n) sz) s.heap H locs := hw
  have hinj := fun {i j : Nat} => ix_inj hw.2.1 (i := i) (j := j)
  have hF : f (ad p0) = .inr (2, [.int 0, .ref (ad n), .ref (ad (n + 2)), .ref (ad (n + 5)), .ref (ad (n + 7)), .ref (ad (n + 9)), .ref (ad (n + 11)), .ref (ad (n + 13)), .ref (ad (n + 15)), .ref (ad (n + 17)), .null, .null]) := by rw [hfr p0 (by omega), hF, he n (by omega), he (n + 7) (by omega), he (n + 9) (by omega), he (n + 5) (by omega), he (n + 2) (by omega), he (n + 17) (by omega), he (n + 13) (by omega), he (n + 15) (by omega), he (n + 11) (by omega)]
  have FX0 := tr_W he hfr (by omega) FX0
  have FX1 := tr_D he hfr (by omega) FX1
  have FX2 := tr_W he hfr (by omega) FX2
  have FX3 := tr_W he hfr (by omega) FX3
  have FX4 := tr_W he hfr (by omega) FX4
  have FX5 := tr_W he hfr (by omega) FX5
  have FX6 := tr_W he hfr (by omega) FX6
  have FX7 := tr_W he hfr (by omega) FX7
  have FX8 := tr_W he hfr (by omega) FX8
  have hE : ix_e n ad0 ad := fun i hi => (he i (by omega)).trans (hE i hi)
  have hO : ∀ i, i < n → i ≠ p0 → f (ad i) = f0 (ad0 i) := fun i h1 h2 => (hfr i (by omega)).trans (hO i h1 h2)
  have FX9 := hX
  refine np_putF (C0 := RX2) (T0 := TX2) (N := 12) (ci := 2) (ty := .object "BallDesk$Whole") C (by decide +kernel) tyX2 tyX2_ok nmX2 hw (by first | exact ix_in (by omega) | (rw [← hE p0 hp]; exact ix_in (by omega))) (by first | exact hF | (rw [← hE p0 hp]; exact hF)) rfl 10 (by decide) (by decide +kernel) rfl rfl rfl (by decide +kernel) rfl rfl (Nat.le_of_ble_eq_true rfl) dX2_init_111 (fun H locs hw => ?_)
  rw [← hE p0 hp] at hw
  obtain ⟨f1, hf1⟩ : ∃ g, g = va_up f (ad p0) (.inr (2, [.int 0, .ref (ad n), .ref (ad (n + 2)), .ref (ad (n + 5)), .ref (ad (n + 7)), .ref (ad (n + 9)), .ref (ad (n + 11)), .ref (ad (n + 13)), .ref (ad (n + 15)), .ref (ad (n + 17)), .ref (ad (n + 19)), .null])) := ⟨_, rfl⟩
  have hw : np_W D (ix_L ad (n + 21)) f1 (np_A (ix_L ad0 n) sz) s.heap H locs := by rw [hf1]; exact hw
  have hF : f1 (ad p0) = .inr (2, [.int 0, .ref (ad n), .ref (ad (n + 2)), .ref (ad (n + 5)), .ref (ad (n + 7)), .ref (ad (n + 9)), .ref (ad (n + 11)), .ref (ad (n + 13)), .ref (ad (n + 15)), .ref (ad (n + 17)), .ref (ad (n + 19)), .null]) := by rw [hf1]; exact va_up_self _ _ _
  have hfr : ∀ i, i < n + 21 → i ≠ p0 → f1 (ad i) = f (ad i) := fun i h1 h2 => by rw [hf1]; exact va_up_ne _ _ (fun h => h2 (hinj h1 (by omega) h))
  have FX0 := tp_W hfr (by omega) (by omega) FX0
  have FX1 := tp_D hfr (by omega) (by omega) FX1
  have FX2 := tp_W hfr (by omega) (by omega) FX2
  have FX3 := tp_W hfr (by omega) (by omega) FX3
  have FX4 := tp_W hfr (by omega) (by omega) FX4
  have FX5 := tp_W hfr (by omega) (by omega) FX5
  have FX6 := tp_W hfr (by omega) (by omega) FX6
  have FX7 := tp_W hfr (by omega) (by omega) FX7
  have FX8 := tp_W hfr (by omega) (by omega) FX8
  have FX9 := tp_W hfr (by omega) (by omega) FX9
  have hO : ∀ i, i < n → i ≠ p0 → f1 (ad i) = f0 (ad0 i) := fun i h1 h2 => (hfr i (by omega) h2).trans (hO i h1 h2)
  clear hf1 hfr
  generalize f1 = f at *
  refine lv_aload_n hx hb dX2_init_114 rfl (lv_at hl 0 rfl) ?_
  refine ix_mk (C0 := RX3) (T0 := TX3) (N := 3) (ci := 3) (fs := [.null, .int 0, .int 0]) (k := 1) (X := ix_XW T) (host := "BallDesk") (fun n ad f sz p0 h1 h2 => i3_init l D T n ad f sz p0 h1 h2) C (by decide +kernel) tyX3 tyX3_ok (by decide +kernel) (by decide +kernel) (by decide +kernel) hsz hw rfl (fun j hj => by rcases (show j = 0 ∨ j = 1 ∨ j = 2 by omega) with rfl | rfl | rfl <;> rfl) ⟨va_cnB 0 hts gX2_init_X3_init_n9 rfl rfl rfl (hNs _ (by decide +kernel)) (hts (.initialized RX3) (by decide +kernel)) (by decide +kernel) ⟨(Nat.le_of_ble_eq_true rfl), (Nat.le_of_ble_eq_true rfl)⟩, rfl, hts (.instanceMethod yX3_init) (by decide +kernel)⟩ hl.1 (Nat.le_of_ble_eq_true rfl) ⟨(Nat.le_of_ble_eq_true rfl), (Nat.le_of_ble_eq_true rfl)⟩ dX2_init_115 dX2_init_118 dX2_init_119 (fun ad f H locs he hfr hX hw => ?_)
  have hw : np_W D (ix_L ad (n + 23)) f (np_A (ix_L ad0 n) sz) s.heap H locs := hw
  have hinj := fun {i j : Nat} => ix_inj hw.2.1 (i := i) (j := j)
  have hF : f (ad p0) = .inr (2, [.int 0, .ref (ad n), .ref (ad (n + 2)), .ref (ad (n + 5)), .ref (ad (n + 7)), .ref (ad (n + 9)), .ref (ad (n + 11)), .ref (ad (n + 13)), .ref (ad (n + 15)), .ref (ad (n + 17)), .ref (ad (n + 19)), .null]) := by rw [hfr p0 (by omega), hF, he n (by omega), he (n + 7) (by omega), he (n + 9) (by omega), he (n + 5) (by omega), he (n + 2) (by omega), he (n + 17) (by omega), he (n + 13) (by omega), he (n + 19) (by omega), he (n + 15) (by omega), he (n + 11) (by omega)]
  have FX0 := tr_W he hfr (by omega) FX0
  have FX1 := tr_D he hfr (by omega) FX1
  have FX2 := tr_W he hfr (by omega) FX2
  have FX3 := tr_W he hfr (by omega) FX3
  have FX4 := tr_W he hfr (by omega) FX4
  have FX5 := tr_W he hfr (by omega) FX5
  have FX6 := tr_W he hfr (by omega) FX6
  have FX7 := tr_W he hfr (by omega) FX7
  have FX8 := tr_W he hfr (by omega) FX8
  have FX9 := tr_W he hfr (by omega) FX9
  have hE : ix_e n ad0 ad := fun i hi => (he i (by omega)).trans (hE i hi)
  have hO : ∀ i, i < n → i ≠ p0 → f (ad i) = f0 (ad0 i) := fun i h1 h2 => (hfr i (by omega)).trans (hO i h1 h2)
  have FX10 := hX
  refine np_putF (C0 := RX2) (T0 := TX2) (N := 12) (ci := 2) (ty := .object "BallDesk$Whole") C (by decide +kernel) tyX2 tyX2_ok nmX2 hw (by first | exact ix_in (by omega) | (rw [← hE p0 hp]; exact ix_in (by omega))) (by first | exact hF | (rw [← hE p0 hp]; exact hF)) rfl 11 (by decide) (by decide +kernel) rfl rfl rfl (by decide +kernel) rfl rfl (Nat.le_of_ble_eq_true rfl) dX2_init_122 (fun H locs hw => ?_)
  rw [← hE p0 hp] at hw
  obtain ⟨f1, hf1⟩ : ∃ g, g = va_up f (ad p0) (.inr (2, [.int 0, .ref (ad n), .ref (ad (n + 2)), .ref (ad (n + 5)), .ref (ad (n + 7)), .ref (ad (n + 9)), .ref (ad (n + 11)), .ref (ad (n + 13)), .ref (ad (n + 15)), .ref (ad (n + 17)), .ref (ad (n + 19)), .ref (ad (n + 21))])) := ⟨_, rfl⟩
  have hw : np_W D (ix_L ad (n + 23)) f1 (np_A (ix_L ad0 n) sz) s.heap H locs := by rw [hf1]; exact hw
  have hF : f1 (ad p0) = .inr (2, [.int 0, .ref (ad n), .ref (ad (n + 2)), .ref (ad (n + 5)), .ref (ad (n + 7)), .ref (ad (n + 9)), .ref (ad (n + 11)), .ref (ad (n + 13)), .ref (ad (n + 15)), .ref (ad (n + 17)), .ref (ad (n + 19)), .ref (ad (n + 21))]) := by rw [hf1]; exact va_up_self _ _ _
  have hfr : ∀ i, i < n + 23 → i ≠ p0 → f1 (ad i) = f (ad i) := fun i h1 h2 => by rw [hf1]; exact va_up_ne _ _ (fun h => h2 (hinj h1 (by omega) h))
  have FX0 := tp_W hfr (by omega) (by omega) FX0
  have FX1 := tp_D hfr (by omega) (by omega) FX1
  have FX2 := tp_W hfr (by omega) (by omega) FX2
  have FX3 := tp_W hfr (by omega) (by omega) FX3
  have FX4 := tp_W hfr (by omega) (by omega) FX4
  have FX5 := tp_W hfr (by omega) (by omega) FX5
  have FX6 := tp_W hfr (by omega) (by omega) FX6
  have FX7 := tp_W hfr (by omega) (by omega) FX7
  have FX8 := tp_W hfr (by omega) (by omega) FX8
  have FX9 := tp_W hfr (by omega) (by omega) FX9
  have FX10 := tp_W hfr (by omega) (by omega) FX10
  have hO : ∀ i, i < n → i ≠ p0 → f1 (ad i) = f0 (ad0 i) := fun i h1 h2 => (hfr i (by omega) h2).trans (hO i h1 h2)
  clear hf1 hfr
  generalize f1 = f at *
  refine lv_aload_n hx hb dX2_init_125 rfl (lv_at hl 0 rfl) ?_
  refine lv_iload_n hx hb dX2_init_126 rfl (lv_at hl 1 rfl) ?_
  refine np_putF (C0 := RX2) (T0 := TX2) (N := 12) (ci := 2) (ty := .int) C (by decide +kernel) tyX2 tyX2_ok nmX2 hw (by first | exact ix_in (by omega) | (rw [← hE p0 hp]; exact ix_in (by omega))) (by first | exact hF | (rw [← hE p0 hp]; exact hF)) rfl 0 (by decide) (by decide +kernel) rfl rfl rfl (by decide +kernel) rfl rfl (Nat.le_of_ble_eq_true rfl) dX2_init_127 (fun H locs hw => ?_)
  rw [← hE p0 hp] at hw
  obtain ⟨f1, hf1⟩ : ∃ g, g = va_up f (ad p0) (.inr (2, [.int (nI Qb), .ref (ad n), .ref (ad (n + 2)), .ref (ad (n + 5)), .ref (ad (n + 7)), .ref (ad (n + 9)), .ref (ad (n + 11)), .ref (ad (n + 13)), .ref (ad (n + 15)), .ref (ad (n + 17)), .ref (ad (n + 19)), .ref (ad (n + 21))])) := ⟨_, rfl⟩
  have hw : np_W D (ix_L ad (n + 23)) f1 (np_A (ix_L ad0 n) sz) s.heap H locs := by rw [hf1]; exact hw
  have hF : f1 (ad p0) = .inr (2, [.int (nI Qb), .ref (ad n), .ref (ad (n + 2)), .ref (ad (n + 5)), .ref (ad (n + 7)), .ref (ad (n + 9)), .ref (ad (n + 11)), .ref (ad (n + 13)), .ref (ad (n + 15)), .ref (ad (n + 17)), .ref (ad (n + 19)), .ref (ad (n + 21))]) := by rw [hf1]; exact va_up_self _ _ _
  have hfr : ∀ i, i < n + 23 → i ≠ p0 → f1 (ad i) = f (ad i) := fun i h1 h2 => by rw [hf1]; exact va_up_ne _ _ (fun h => h2 (hinj h1 (by omega) h))
  have FX0 := tp_W hfr (by omega) (by omega) FX0
  have FX1 := tp_D hfr (by omega) (by omega) FX1
  have FX2 := tp_W hfr (by omega) (by omega) FX2
  have FX3 := tp_W hfr (by omega) (by omega) FX3
  have FX4 := tp_W hfr (by omega) (by omega) FX4
  have FX5 := tp_W hfr (by omega) (by omega) FX5
  have FX6 := tp_W hfr (by omega) (by omega) FX6
  have FX7 := tp_W hfr (by omega) (by omega) FX7
  have FX8 := tp_W hfr (by omega) (by omega) FX8
  have FX9 := tp_W hfr (by omega) (by omega) FX9
  have FX10 := tp_W hfr (by omega) (by omega) FX10
  have hO : ∀ i, i < n → i ≠ p0 → f1 (ad i) = f0 (ad0 i) := fun i h1 h2 => (hfr i (by omega) h2).trans (hO i h1 h2)
  clear hf1 hfr
  generalize f1 = f at *
  refine lv_aload_n hx hb dX2_init_130 rfl (lv_at hl 0 rfl) ?_
  refine np_g (C0 := RX2) (T0 := TX2) (M := 12) (ci := 2) C (by decide +kernel) hw (by rw [← hE p0 hp]; exact ix_in (by omega)) (by rw [← hE p0 hp]; exact hF) rfl 1 (by decide) (v := .ref (ad n)) rfl rfl dX2_init_131 (by decide +kernel) ?_
  refine lv_iload_n hx hb dX2_init_134 rfl (lv_at hl 1 rfl) ?_
  refine np_pow (k := n) (v := Qb) C hsz hw (fun q hq => by obtain ⟨i, hi, rfl⟩ := ix_of hq; rw [← hE i hi]; exact ix_in (by omega)) (by omega) FX0 hQ (cwV 1 hts gX2_init_X3_becomePower rfl rfl rfl (by decide +kernel) ⟨(Nat.le_of_ble_eq_true rfl), (Nat.le_of_ble_eq_true rfl)⟩) dX2_init_135 hl.1 (Nat.le_of_ble_eq_true rfl) ⟨(Nat.le_of_ble_eq_true rfl), (Nat.le_of_ble_eq_true rfl)⟩ (fun f1 H locs hfr hV hw => ?_)
  have hF : f1 (ad p0) = .inr (2, [.int (nI Qb), .ref (ad n), .ref (ad (n + 2)), .ref (ad (n + 5)), .ref (ad (n + 7)), .ref (ad (n + 9)), .ref (ad (n + 11)), .ref (ad (n + 13)), .ref (ad (n + 15)), .ref (ad (n + 17)), .ref (ad (n + 19)), .ref (ad (n + 21))]) := (hfr p0 (by omega) (by omega) (by omega)).trans hF
  have FX1 := tq_D hfr (by omega) (by omega) FX1
  have FX2 := tq_W hfr (by omega) (by omega) FX2
  have FX3 := tq_W hfr (by omega) (by omega) FX3
  have FX4 := tq_W hfr (by omega) (by omega) FX4
  have FX5 := tq_W hfr (by omega) (by omega) FX5
  have FX6 := tq_W hfr (by omega) (by omega) FX6
  have FX7 := tq_W hfr (by omega) (by omega) FX7
  have FX8 := tq_W hfr (by omega) (by omega) FX8
  have FX9 := tq_W hfr (by omega) (by omega) FX9
  have FX10 := tq_W hfr (by omega) (by omega) FX10
  refine np_vret C hr hlk hw dX2_init_138 ⟨ad, hE, rfl, fun i h1 h2 => by rw [← hE i h1]; exact (hfr i (by omega) (by omega) (by omega)).trans ((hO i h1 h2).trans (by rw [hE i h1])), hF, hV, FX1, fun i hi => ?_⟩
  rcases (show i = 0 ∨ i = 1 ∨ i = 2 ∨ i = 3 ∨ i = 4 ∨ i = 5 ∨ i = 6 ∨ i = 7 ∨ i = 8 by omega) with rfl | rfl | rfl | rfl | rfl | rfl | rfl | rfl | rfl
  · exact FX2
  · exact FX3
  · exact FX4
  · exact FX5
  · exact FX6
  · exact FX7
  · exact FX8
  · exact FX9
  · exact FX10
