/-! constructors: BallDesk (laid by wip/gen/m_init4.py) -/
/-- the desk made at p0: its 105 cells from n on -/
def ix_X4 (T : np_T) (P n p0 : Nat) (ad1 : Nat → Nat) (f1 : Nat → va_E) : Prop := f1 (ad1 p0) = .inr (4, [.int (nI P), .ref (ad1 n), .ref (ad1 (n + 2)), .ref (ad1 (n + 3)), .ref (ad1 (n + 8)), .ref (ad1 (n + 10)), .ref (ad1 (n + 12)), .ref (ad1 (n + 14)), .ref (ad1 (n + 16)), .ref (ad1 (n + 18)), .ref (ad1 (n + 81))]) ∧ ix_V T n ad1 f1 ((2 ^ (P + 48) : Nat) : Int) ∧ f1 (ad1 (n + 2)) = .inl (T.2.2, 12, .inr (.inr (.inr (.inr (fun j => if j < 12 then some (ad1 (n + 21 + 5 * j)) else none))))) ∧ ix_XB T (n + 4) (n + 3) ad1 f1 ∧ (∀ i, i < 5 → ix_XW T (n + 8 + 2 * i + 1) (n + 8 + 2 * i) ad1 f1) ∧ ix_XD T (n + 19) (n + 18) ad1 f1 ∧ (∀ j, j < 12 → ix_XB T (n + 21 + 5 * j + 1) (n + 21 + 5 * j) ad1 f1) ∧ ix_XF T (P + 64) (n + 82) (n + 81) ad1 f1
theorem tr_V {T : np_T} {N k : Nat} {v : Int} {ad ad1 : Nat → Nat} {f f1 : Nat → va_E} (he : ix_e N ad ad1) (hfr : ∀ i, i < N → f1 (ad1 i) = f (ad i)) (hk : k + 1 < N) (h : ix_V T k ad f v) : ix_V T k ad1 f1 v := by
  obtain ⟨w, h1, h2, h3⟩ := h
  exact ⟨w, h1, by rw [hfr k (by omega), h2, he (k + 1) hk], by rw [hfr (k + 1) hk, h3]⟩
theorem tp_V {T : np_T} {N k p0 : Nat} {v : Int} {ad : Nat → Nat} {f f1 : Nat → va_E} (hfr : ∀ i, i < N → i ≠ p0 → f1 (ad i) = f (ad i)) (hk : k + 1 < N) (hp : p0 < k ∨ k + 1 < p0) (h : ix_V T k ad f v) : ix_V T k ad f1 v := by
  obtain ⟨w, h1, h2, h3⟩ := h
  exact ⟨w, h1, by rw [hfr k (by omega) (by omega), h2], by rw [hfr (k + 1) hk (by omega), h3]⟩
def ix_PL (T : np_T) (n k : Nat) (ad : Nat → Nat) (f : Nat → va_E) : Prop := f (ad (n + 2)) = .inl (T.2.2, 12, .inr (.inr (.inr (.inr (fun j => if j < k then some (ad (n + 21 + 5 * j)) else none)))))
theorem tr_PL {T : np_T} {N n k : Nat} {ad ad1 : Nat → Nat} {f f1 : Nat → va_E} (he : ix_e N ad ad1) (hfr : ∀ i, i < N → f1 (ad1 i) = f (ad i)) (hk : n + 2 < N ∧ (k = 0 ∨ n + 21 + 5 * k ≤ N)) (h : ix_PL T n k ad f) : ix_PL T n k ad1 f1 := by
  unfold ix_PL at *
  rw [hfr (n + 2) (by omega), h]
  congr 7
  funext j
  by_cases q : j < k
  · rw [if_pos q, if_pos q, he _ (by omega)]
  · rw [if_neg q, if_neg q]
theorem tp_PL {T : np_T} {N n k p0 : Nat} {ad : Nat → Nat} {f f1 : Nat → va_E} (hfr : ∀ i, i < N → i ≠ p0 → f1 (ad i) = f (ad i)) (hk : n + 2 < N) (hp : p0 ≠ n + 2) (h : ix_PL T n k ad f) : ix_PL T n k ad f1 := by
  unfold ix_PL at *
  rw [hfr (n + 2) hk (fun q => hp q.symm), h]
theorem tp_F {T : np_T} {N k p0 Qb : Nat} {ad : Nat → Nat} {f f1 : Nat → va_E} (hfr : ∀ i, i < N → i ≠ p0 → f1 (ad i) = f (ad i)) (hk : k + 23 < N) (hp : p0 < k ∨ k + 23 < p0) (h : ix_XF T Qb (k + 1) k ad f) : ix_XF T Qb (k + 1) k ad f1 := by
  obtain ⟨h1, h2, h3, h4⟩ := h
  exact ⟨(hfr k (by omega) (by omega)).trans h1, tp_V hfr (by omega) (by omega) h2, tp_D hfr (by omega) (by omega) h3, fun i hi => tp_W hfr (by omega) (by omega) (h4 i hi)⟩
theorem pl_s {T : np_T} {n k : Nat} {ad : Nat → Nat} : (.inl (T.2.2, 12, .inr (.inr (.inr (.inr (va_up (fun j => if j < k then some (ad (n + 21 + 5 * j)) else none) k (some (ad (n + 21 + 5 * k)))))))) : va_E) = .inl (T.2.2, 12, .inr (.inr (.inr (.inr (fun j => if j < k + 1 then some (ad (n + 21 + 5 * j)) else none))))) := by
  congr 7
  funext j
  by_cases q : j = k
  · subst q
    rw [va_up_self, if_pos (by omega)]
  · rw [va_up_ne _ _ q]
    by_cases r : j < k
    · rw [if_pos r, if_pos (by omega)]
    · rw [if_neg r, if_neg (by omega)]
set_option maxHeartbeats 4000000 in
set_option maxRecDepth 100000 in
/-- new BallDesk(bits) -/
theorem i4_init (l : Launch) (D : va_G) (T : np_T) (n : Nat) (ad0 : Nat → Nat) (f0 : Nat → va_E) (sz : Nat) (p0 : Nat) (bv : Int32) (hp : p0 < n) (hf : f0 (ad0 p0) = .inr (4, [.int 0, .null, .null, .null, .null, .null, .null, .null, .null, .null, .null])) : Met l yX4_init wsX4_init ({ frames := 3, cells := 105, slots := 1290, locals := 100 }) (va_Pc [.ref (ad0 p0), .int bv] (fun U => np_P D T (ix_L ad0 n) f0 sz U ∧ va_AO "BallDesk$Ball" U)) (va_Qv (ix_q n 105 p0 ad0 f0 (ix_X4 T (dk_bits bv) n p0)) (np_B D T (ix_L ad0 n) sz) (np_A (ix_L ad0 n) sz)) 105 1290 (np_A (ix_L ad0 n) sz) := by
  refine np_ofW4 (cc := cX4_init) (maxL := 3) (by decide) rfl rfl (Nat.le_of_ble_eq_true rfl) ?_
  intro p e s m below meth c ls C hao hr hlk hsz hw hl
  have hx := C.1
  have hb := C.2.1
  have hml := C.2.2.1
  have hown := C.2.2.2.1
  have hts := C.2.2.2.2.1
  have hNs := C.2.2.2.2.2.2.1
  have hinj := fun {i j : Nat} => ix_inj hw.2.1 (i := i) (j := j)
  have hl : lv_has ls 3 [(0, .ref (ad0 p0)), (1, .int bv)] := hl
  obtain ⟨hP1, hP2⟩ := dk_bitsb bv
  have hE : ix_e n ad0 ad0 := ix_er _ _
  have hO : ∀ i, i < n → i ≠ p0 → f0 (ad0 i) = f0 (ad0 i) := fun _ _ _ => rfl
  have hF := hf
  refine lv_aload_n hx hb dX4_init_0 rfl (lv_at hl 0 rfl) ?_
  refine W.objInit hx hb hown (hts (.methodLink RX4 1 objectInit) (by decide +kernel)) (hts (.instanceMethod objectInit) (by decide +kernel)) (hts _ (List.mem_of_getElem? (i := 3) rfl)) rfl (by rw [hml]; exact hl.1) rfl dX4_init_1 (Nat.le_of_ble_eq_true rfl) (Nat.le_of_ble_eq_true rfl) ?_
  refine W.eq (g2 := F0 m 4 ls []) rfl ?_
  refine lv_aload_n hx hb dX4_init_4 rfl (lv_at hl 0 rfl) ?_
  refine ix_mk (C0 := RX3) (T0 := TX3) (N := 3) (ci := 3) (fs := [.null, .int 0, .int 0]) (k := 1) (X := ix_XW T) (host := "BallDesk") (fun n ad f sz p0 h1 h2 => i3_init l D T n ad f sz p0 h1 h2) C (by decide +kernel) tyX3 tyX3_ok (by decide +kernel) (by decide +kernel) (by decide +kernel) hsz hw rfl (fun j hj => by rcases (show j = 0 ∨ j = 1 ∨ j = 2 by omega) with rfl | rfl | rfl <;> rfl) ⟨va_cnB 0 hts gX4_init_X3_init_n9 rfl rfl rfl (hNs _ (by decide +kernel)) (hts (.initialized RX3) (by decide +kernel)) (by decide +kernel) ⟨(Nat.le_of_ble_eq_true rfl), (Nat.le_of_ble_eq_true rfl)⟩, rfl, hts (.instanceMethod yX3_init) (by decide +kernel)⟩ hl.1 (Nat.le_of_ble_eq_true rfl) ⟨(Nat.le_of_ble_eq_true rfl), (Nat.le_of_ble_eq_true rfl)⟩ dX4_init_5 dX4_init_8 dX4_init_9 (fun ad f H locs he hfr hX hw => ?_)
  have hw : np_W D (ix_L ad (n + 2)) f (np_A (ix_L ad0 n) sz) s.heap H locs := hw
  have hinj := fun {i j : Nat} => ix_inj hw.2.1 (i := i) (j := j)
  have hF : f (ad p0) = .inr (4, [.int 0, .null, .null, .null, .null, .null, .null, .null, .null, .null, .null]) := by rw [hfr p0 (by omega), hF]
  have hE : ix_e n ad0 ad := fun i hi => (he i (by omega)).trans (hE i hi)
  have hO : ∀ i, i < n → i ≠ p0 → f (ad i) = f0 (ad0 i) := fun i h1 h2 => (hfr i (by omega)).trans (hO i h1 h2)
  have FL := hX
  refine np_putF (C0 := RX4) (T0 := TX4) (N := 11) (ci := 4) (ty := .object "BallDesk$Whole") C (by decide +kernel) tyX4 tyX4_ok nmX4 hw (by first | exact ix_in (by omega) | (rw [← hE p0 hp]; exact ix_in (by omega))) (by first | exact hF | (rw [← hE p0 hp]; exact hF)) rfl 1 (by decide) (by decide +kernel) rfl rfl rfl (by decide +kernel) rfl rfl (Nat.le_of_ble_eq_true rfl) dX4_init_12 (fun H locs hw => ?_)
  rw [← hE p0 hp] at hw
  obtain ⟨f1, hf1⟩ : ∃ g, g = va_up f (ad p0) (.inr (4, [.int 0, .ref (ad n), .null, .null, .null, .null, .null, .null, .null, .null, .null])) := ⟨_, rfl⟩
  have hw : np_W D (ix_L ad (n + 2)) f1 (np_A (ix_L ad0 n) sz) s.heap H locs := by rw [hf1]; exact hw
  have hF : f1 (ad p0) = .inr (4, [.int 0, .ref (ad n), .null, .null, .null, .null, .null, .null, .null, .null, .null]) := by rw [hf1]; exact va_up_self _ _ _
  have hfr : ∀ i, i < n + 2 → i ≠ p0 → f1 (ad i) = f (ad i) := fun i h1 h2 => by rw [hf1]; exact va_up_ne _ _ (fun h => h2 (hinj h1 (by omega) h))
  have FL := tp_W hfr (by omega) (by omega) FL
  have hO : ∀ i, i < n → i ≠ p0 → f1 (ad i) = f0 (ad0 i) := fun i h1 h2 => (hfr i (by omega) h2).trans (hO i h1 h2)
  clear hf1 hfr
  generalize f1 = f at *
  refine lv_aload_n hx hb dX4_init_15 rfl (lv_at hl 0 rfl) ?_
  refine lv_bipush (v := nI 12) hx hb dX4_init_16 (by decide) ?_
  refine np_newq (N' := 12) C (by decide +kernel) hao hsz hw (by decide) (by decide) (by decide) (Nat.le_of_ble_eq_true rfl) (Nat.le_of_ble_eq_true rfl) dX4_init_18 (fun q H hq hw => ?_)
  rw [ix_s] at hw
  obtain ⟨ad1, had1⟩ : ∃ g, g = va_up ad (n + 2) q := ⟨_, rfl⟩
  obtain ⟨f1, hf1⟩ : ∃ g, g = va_up f q (.inl (T.2.2, 12, .inr (.inr (.inr (.inr (fun _ => none)))))) := ⟨_, rfl⟩
  have hw : np_W D (ix_L ad1 (n + 3)) f1 (np_A (ix_L ad0 n) sz) s.heap H locs := by rw [had1, hf1]; exact hw
  have he : ix_e (n + 2) ad ad1 := fun i hi => by rw [had1]; exact va_up_ne _ _ (by omega)
  have hqe : ad1 (n + 2) = q := by rw [had1]; exact va_up_self _ _ _
  have hfr : ∀ i, i < n + 2 → f1 (ad1 i) = f (ad i) := fun i hi => by rw [he i hi, hf1]; exact va_up_ne _ _ (fun h => hq (by rw [← h]; exact ix_in hi))
  have hinj := fun {i j : Nat} => ix_inj hw.2.1 (i := i) (j := j)
  have hPL : ix_PL T n 0 ad1 f1 := by unfold ix_PL; rw [hqe, hf1, va_up_self]; rfl
  have hF : f1 (ad1 p0) = .inr (4, [.int 0, .ref (ad1 n), .null, .null, .null, .null, .null, .null, .null, .null, .null]) := by rw [hfr p0 (by omega), hF, he n (by omega)]
  have FL := tr_W he hfr (by omega) FL
  have hE : ix_e n ad0 ad1 := fun i hi => (he i (by omega)).trans (hE i hi)
  have hO : ∀ i, i < n → i ≠ p0 → f1 (ad1 i) = f0 (ad0 i) := fun i h1 h2 => (hfr i (by omega)).trans (hO i h1 h2)
  rw [← hqe]
  clear hf1 had1 hqe hfr he hq
  generalize f1 = f at *
  generalize ad1 = ad at *
  refine np_putF (C0 := RX4) (T0 := TX4) (N := 11) (ci := 4) (ty := .array (.object "BallDesk$Ball")) C (by decide +kernel) tyX4 tyX4_ok nmX4 hw (by first | exact ix_in (by omega) | (rw [← hE p0 hp]; exact ix_in (by omega))) (by first | exact hF | (rw [← hE p0 hp]; exact hF)) rfl 2 (by decide) (by decide +kernel) rfl rfl rfl (by decide +kernel) rfl rfl (Nat.le_of_ble_eq_true rfl) dX4_init_21 (fun H locs hw => ?_)
  rw [← hE p0 hp] at hw
  obtain ⟨f1, hf1⟩ : ∃ g, g = va_up f (ad p0) (.inr (4, [.int 0, .ref (ad n), .ref (ad (n + 2)), .null, .null, .null, .null, .null, .null, .null, .null])) := ⟨_, rfl⟩
  have hw : np_W D (ix_L ad (n + 3)) f1 (np_A (ix_L ad0 n) sz) s.heap H locs := by rw [hf1]; exact hw
  have hF : f1 (ad p0) = .inr (4, [.int 0, .ref (ad n), .ref (ad (n + 2)), .null, .null, .null, .null, .null, .null, .null, .null]) := by rw [hf1]; exact va_up_self _ _ _
  have hfr : ∀ i, i < n + 3 → i ≠ p0 → f1 (ad i) = f (ad i) := fun i h1 h2 => by rw [hf1]; exact va_up_ne _ _ (fun h => h2 (hinj h1 (by omega) h))
  have FL := tp_W hfr (by omega) (by omega) FL
  have hPL := tp_PL hfr (by omega) (by omega) hPL
  have hO : ∀ i, i < n → i ≠ p0 → f1 (ad i) = f0 (ad0 i) := fun i h1 h2 => (hfr i (by omega) h2).trans (hO i h1 h2)
  clear hf1 hfr
  generalize f1 = f at *
  refine lv_aload_n hx hb dX4_init_24 rfl (lv_at hl 0 rfl) ?_
  refine ix_mk (C0 := RX0) (T0 := TX0) (N := 2) (ci := 0) (fs := [.null, .null]) (k := 4) (X := ix_XB T) (host := "BallDesk") (fun n ad f sz p0 h1 h2 => i0_init l D T n ad f sz p0 h1 h2) C (by decide +kernel) tyX0 tyX0_ok (by decide +kernel) (by decide +kernel) (by decide +kernel) hsz hw rfl (fun j hj => by rcases (show j = 0 ∨ j = 1 by omega) with rfl | rfl <;> rfl) ⟨va_cnB 0 hts gX4_init_X0_init_n22 rfl rfl rfl (hNs _ (by decide +kernel)) (hts (.initialized RX0) (by decide +kernel)) (by decide +kernel) ⟨(Nat.le_of_ble_eq_true rfl), (Nat.le_of_ble_eq_true rfl)⟩, rfl, hts (.instanceMethod yX0_init) (by decide +kernel)⟩ hl.1 (Nat.le_of_ble_eq_true rfl) ⟨(Nat.le_of_ble_eq_true rfl), (Nat.le_of_ble_eq_true rfl)⟩ dX4_init_25 dX4_init_28 dX4_init_29 (fun ad f H locs he hfr hX hw => ?_)
  have hw : np_W D (ix_L ad (n + 8)) f (np_A (ix_L ad0 n) sz) s.heap H locs := hw
  have hinj := fun {i j : Nat} => ix_inj hw.2.1 (i := i) (j := j)
  have hF : f (ad p0) = .inr (4, [.int 0, .ref (ad n), .ref (ad (n + 2)), .null, .null, .null, .null, .null, .null, .null, .null]) := by rw [hfr p0 (by omega), hF, he n (by omega), he (n + 2) (by omega)]
  have FL := tr_W he hfr (by omega) FL
  have hPL := tr_PL he hfr (by omega) hPL
  have hE : ix_e n ad0 ad := fun i hi => (he i (by omega)).trans (hE i hi)
  have hO : ∀ i, i < n → i ≠ p0 → f (ad i) = f0 (ad0 i) := fun i h1 h2 => (hfr i (by omega)).trans (hO i h1 h2)
  have FM := hX
  refine np_putF (C0 := RX4) (T0 := TX4) (N := 11) (ci := 4) (ty := .object "BallDesk$Ball") C (by decide +kernel) tyX4 tyX4_ok nmX4 hw (by first | exact ix_in (by omega) | (rw [← hE p0 hp]; exact ix_in (by omega))) (by first | exact hF | (rw [← hE p0 hp]; exact hF)) rfl 3 (by decide) (by decide +kernel) rfl rfl rfl (by decide +kernel) rfl rfl (Nat.le_of_ble_eq_true rfl) dX4_init_32 (fun H locs hw => ?_)
  rw [← hE p0 hp] at hw
  obtain ⟨f1, hf1⟩ : ∃ g, g = va_up f (ad p0) (.inr (4, [.int 0, .ref (ad n), .ref (ad (n + 2)), .ref (ad (n + 3)), .null, .null, .null, .null, .null, .null, .null])) := ⟨_, rfl⟩
  have hw : np_W D (ix_L ad (n + 8)) f1 (np_A (ix_L ad0 n) sz) s.heap H locs := by rw [hf1]; exact hw
  have hF : f1 (ad p0) = .inr (4, [.int 0, .ref (ad n), .ref (ad (n + 2)), .ref (ad (n + 3)), .null, .null, .null, .null, .null, .null, .null]) := by rw [hf1]; exact va_up_self _ _ _
  have hfr : ∀ i, i < n + 8 → i ≠ p0 → f1 (ad i) = f (ad i) := fun i h1 h2 => by rw [hf1]; exact va_up_ne _ _ (fun h => h2 (hinj h1 (by omega) h))
  have FL := tp_W hfr (by omega) (by omega) FL
  have hPL := tp_PL hfr (by omega) (by omega) hPL
  have FM := tp_B hfr (by omega) (by omega) FM
  have hO : ∀ i, i < n → i ≠ p0 → f1 (ad i) = f0 (ad0 i) := fun i h1 h2 => (hfr i (by omega) h2).trans (hO i h1 h2)
  clear hf1 hfr
  generalize f1 = f at *
  refine lv_aload_n hx hb dX4_init_35 rfl (lv_at hl 0 rfl) ?_
  refine ix_mk (C0 := RX3) (T0 := TX3) (N := 3) (ci := 3) (fs := [.null, .int 0, .int 0]) (k := 1) (X := ix_XW T) (host := "BallDesk") (fun n ad f sz p0 h1 h2 => i3_init l D T n ad f sz p0 h1 h2) C (by decide +kernel) tyX3 tyX3_ok (by decide +kernel) (by decide +kernel) (by decide +kernel) hsz hw rfl (fun j hj => by rcases (show j = 0 ∨ j = 1 ∨ j = 2 by omega) with rfl | rfl | rfl <;> rfl) ⟨va_cnB 0 hts gX4_init_X3_init_n9 rfl rfl rfl (hNs _ (by decide +kernel)) (hts (.initialized RX3) (by decide +kernel)) (by decide +kernel) ⟨(Nat.le_of_ble_eq_true rfl), (Nat.le_of_ble_eq_true rfl)⟩, rfl, hts (.instanceMethod yX3_init) (by decide +kernel)⟩ hl.1 (Nat.le_of_ble_eq_true rfl) ⟨(Nat.le_of_ble_eq_true rfl), (Nat.le_of_ble_eq_true rfl)⟩ dX4_init_36 dX4_init_39 dX4_init_40 (fun ad f H locs he hfr hX hw => ?_)
  have hw : np_W D (ix_L ad (n + 10)) f (np_A (ix_L ad0 n) sz) s.heap H locs := hw
  have hinj := fun {i j : Nat} => ix_inj hw.2.1 (i := i) (j := j)
  have hF : f (ad p0) = .inr (4, [.int 0, .ref (ad n), .ref (ad (n + 2)), .ref (ad (n + 3)), .null, .null, .null, .null, .null, .null, .null]) := by rw [hfr p0 (by omega), hF, he n (by omega), he (n + 2) (by omega), he (n + 3) (by omega)]
  have FL := tr_W he hfr (by omega) FL
  have hPL := tr_PL he hfr (by omega) hPL
  have FM := tr_B he hfr (by omega) FM
  have hE : ix_e n ad0 ad := fun i hi => (he i (by omega)).trans (hE i hi)
  have hO : ∀ i, i < n → i ≠ p0 → f (ad i) = f0 (ad0 i) := fun i h1 h2 => (hfr i (by omega)).trans (hO i h1 h2)
  have FX0 := hX
  refine np_putF (C0 := RX4) (T0 := TX4) (N := 11) (ci := 4) (ty := .object "BallDesk$Whole") C (by decide +kernel) tyX4 tyX4_ok nmX4 hw (by first | exact ix_in (by omega) | (rw [← hE p0 hp]; exact ix_in (by omega))) (by first | exact hF | (rw [← hE p0 hp]; exact hF)) rfl 4 (by decide) (by decide +kernel) rfl rfl rfl (by decide +kernel) rfl rfl (Nat.le_of_ble_eq_true rfl) dX4_init_43 (fun H locs hw => ?_)
  rw [← hE p0 hp] at hw
  obtain ⟨f1, hf1⟩ : ∃ g, g = va_up f (ad p0) (.inr (4, [.int 0, .ref (ad n), .ref (ad (n + 2)), .ref (ad (n + 3)), .ref (ad (n + 8)), .null, .null, .null, .null, .null, .null])) := ⟨_, rfl⟩
  have hw : np_W D (ix_L ad (n + 10)) f1 (np_A (ix_L ad0 n) sz) s.heap H locs := by rw [hf1]; exact hw
  have hF : f1 (ad p0) = .inr (4, [.int 0, .ref (ad n), .ref (ad (n + 2)), .ref (ad (n + 3)), .ref (ad (n + 8)), .null, .null, .null, .null, .null, .null]) := by rw [hf1]; exact va_up_self _ _ _
  have hfr : ∀ i, i < n + 10 → i ≠ p0 → f1 (ad i) = f (ad i) := fun i h1 h2 => by rw [hf1]; exact va_up_ne _ _ (fun h => h2 (hinj h1 (by omega) h))
  have FL := tp_W hfr (by omega) (by omega) FL
  have hPL := tp_PL hfr (by omega) (by omega) hPL
  have FM := tp_B hfr (by omega) (by omega) FM
  have FX0 := tp_W hfr (by omega) (by omega) FX0
  have hO : ∀ i, i < n → i ≠ p0 → f1 (ad i) = f0 (ad0 i) := fun i h1 h2 => (hfr i (by omega) h2).trans (hO i h1 h2)
  clear hf1 hfr
  generalize f1 = f at *
  refine lv_aload_n hx hb dX4_init_46 rfl (lv_at hl 0 rfl) ?_
  refine ix_mk (C0 := RX3) (T0 := TX3) (N := 3) (ci := 3) (fs := [.null, .int 0, .int 0]) (k := 1) (X := ix_XW T) (host := "BallDesk") (fun n ad f sz p0 h1 h2 => i3_init l D T n ad f sz p0 h1 h2) C (by decide +kernel) tyX3 tyX3_ok (by decide +kernel) (by decide +kernel) (by decide +kernel) hsz hw rfl (fun j hj => by rcases (show j = 0 ∨ j = 1 ∨ j = 2 by omega) with rfl | rfl | rfl <;> rfl) ⟨va_cnB 0 hts gX4_init_X3_init_n9 rfl rfl rfl (hNs _ (by decide +kernel)) (hts (.initialized RX3) (by decide +kernel)) (by decide +kernel) ⟨(Nat.le_of_ble_eq_true rfl), (Nat.le_of_ble_eq_true rfl)⟩, rfl, hts (.instanceMethod yX3_init) (by decide +kernel)⟩ hl.1 (Nat.le_of_ble_eq_true rfl) ⟨(Nat.le_of_ble_eq_true rfl), (Nat.le_of_ble_eq_true rfl)⟩ dX4_init_47 dX4_init_50 dX4_init_51 (fun ad f H locs he hfr hX hw => ?_)
  have hw : np_W D (ix_L ad (n + 12)) f (np_A (ix_L ad0 n) sz) s.heap H locs := hw
  have hinj := fun {i j : Nat} => ix_inj hw.2.1 (i := i) (j := j)
  have hF : f (ad p0) = .inr (4, [.int 0, .ref (ad n), .ref (ad (n + 2)), .ref (ad (n + 3)), .ref (ad (n + 8)), .null, .null, .null, .null, .null, .null]) := by rw [hfr p0 (by omega), hF, he n (by omega), he (n + 8) (by omega), he (n + 2) (by omega), he (n + 3) (by omega)]
  have FL := tr_W he hfr (by omega) FL
  have hPL := tr_PL he hfr (by omega) hPL
  have FM := tr_B he hfr (by omega) FM
  have FX0 := tr_W he hfr (by omega) FX0
  have hE : ix_e n ad0 ad := fun i hi => (he i (by omega)).trans (hE i hi)
  have hO : ∀ i, i < n → i ≠ p0 → f (ad i) = f0 (ad0 i) := fun i h1 h2 => (hfr i (by omega)).trans (hO i h1 h2)
  have FX1 := hX
  refine np_putF (C0 := RX4) (T0 := TX4) (N := 11) (ci := 4) (ty := .object "BallDesk$Whole") C (by decide +kernel) tyX4 tyX4_ok nmX4 hw (by first | exact ix_in (by omega) | (rw [← hE p0 hp]; exact ix_in (by omega))) (by first | exact hF | (rw [← hE p0 hp]; exact hF)) rfl 5 (by decide) (by decide +kernel) rfl rfl rfl (by decide +kernel) rfl rfl (Nat.le_of_ble_eq_true rfl) dX4_init_54 (fun H locs hw => ?_)
  rw [← hE p0 hp] at hw
  obtain ⟨f1, hf1⟩ : ∃ g, g = va_up f (ad p0) (.inr (4, [.int 0, .ref (ad n), .ref (ad (n + 2)), .ref (ad (n + 3)), .ref (ad (n + 8)), .ref (ad (n + 10)), .null, .null, .null, .null, .null])) := ⟨_, rfl⟩
  have hw : np_W D (ix_L ad (n + 12)) f1 (np_A (ix_L ad0 n) sz) s.heap H locs := by rw [hf1]; exact hw
  have hF : f1 (ad p0) = .inr (4, [.int 0, .ref (ad n), .ref (ad (n + 2)), .ref (ad (n + 3)), .ref (ad (n + 8)), .ref (ad (n + 10)), .null, .null, .null, .null, .null]) := by rw [hf1]; exact va_up_self _ _ _
  have hfr : ∀ i, i < n + 12 → i ≠ p0 → f1 (ad i) = f (ad i) := fun i h1 h2 => by rw [hf1]; exact va_up_ne _ _ (fun h => h2 (hinj h1 (by omega) h))
  have FL := tp_W hfr (by omega) (by omega) FL
  have hPL := tp_PL hfr (by omega) (by omega) hPL
  have FM := tp_B hfr (by omega) (by omega) FM
  have FX0 := tp_W hfr (by omega) (by omega) FX0
  have FX1 := tp_W hfr (by omega) (by omega) FX1
  have hO : ∀ i, i < n → i ≠ p0 → f1 (ad i) = f0 (ad0 i) := fun i h1 h2 => (hfr i (by omega) h2).trans (hO i h1 h2)
  clear hf1 hfr
  generalize f1 = f at *
  refine lv_aload_n hx hb dX4_init_57 rfl (lv_at hl 0 rfl) ?_
  refine ix_mk (C0 := RX3) (T0 := TX3) (N := 3) (ci := 3) (fs := [.null, .int 0, .int 0]) (k := 1) (X := ix_XW T) (host := "BallDesk") (fun n ad f sz p0 h1 h2 => i3_init l D T n ad f sz p0 h1 h2) C (by decide +kernel) tyX3 tyX3_ok (by decide +kernel) (by decide +kernel) (by decide +kernel) hsz hw rfl (fun j hj => by rcases (show j = 0 ∨ j = 1 ∨ j = 2 by omega) with rfl | rfl | rfl <;> rfl) ⟨va_cnB 0 hts gX4_init_X3_init_n9 rfl rfl rfl (hNs _ (by decide +kernel)) (hts (.initialized RX3) (by decide +kernel)) (by decide +kernel) ⟨(Nat.le_of_ble_eq_true rfl), (Nat.le_of_ble_eq_true rfl)⟩, rfl, hts (.instanceMethod yX3_init) (by decide +kernel)⟩ hl.1 (Nat.le_of_ble_eq_true rfl) ⟨(Nat.le_of_ble_eq_true rfl), (Nat.le_of_ble_eq_true rfl)⟩ dX4_init_58 dX4_init_61 dX4_init_62 (fun ad f H locs he hfr hX hw => ?_)
  have hw : np_W D (ix_L ad (n + 14)) f (np_A (ix_L ad0 n) sz) s.heap H locs := hw
  have hinj := fun {i j : Nat} => ix_inj hw.2.1 (i := i) (j := j)
  have hF : f (ad p0) = .inr (4, [.int 0, .ref (ad n), .ref (ad (n + 2)), .ref (ad (n + 3)), .ref (ad (n + 8)), .ref (ad (n + 10)), .null, .null, .null, .null, .null]) := by rw [hfr p0 (by omega), hF, he n (by omega), he (n + 2) (by omega), he (n + 8) (by omega), he (n + 3) (by omega), he (n + 10) (by omega)]
  have FL := tr_W he hfr (by omega) FL
  have hPL := tr_PL he hfr (by omega) hPL
  have FM := tr_B he hfr (by omega) FM
  have FX0 := tr_W he hfr (by omega) FX0
  have FX1 := tr_W he hfr (by omega) FX1
  have hE : ix_e n ad0 ad := fun i hi => (he i (by omega)).trans (hE i hi)
  have hO : ∀ i, i < n → i ≠ p0 → f (ad i) = f0 (ad0 i) := fun i h1 h2 => (hfr i (by omega)).trans (hO i h1 h2)
  have FX2 := hX
  refine np_putF (C0 := RX4) (T0 := TX4) (N := 11) (ci := 4) (ty := .object "BallDesk$Whole") C (by decide +kernel) tyX4 tyX4_ok nmX4 hw (by first | exact ix_in (by omega) | (rw [← hE p0 hp]; exact ix_in (by omega))) (by first | exact hF | (rw [← hE p0 hp]; exact hF)) rfl 6 (by decide) (by decide +kernel) rfl rfl rfl (by decide +kernel) rfl rfl (Nat.le_of_ble_eq_true rfl) dX4_init_65 (fun H locs hw => ?_)
  rw [← hE p0 hp] at hw
  obtain ⟨f1, hf1⟩ : ∃ g, g = va_up f (ad p0) (.inr (4, [.int 0, .ref (ad n), .ref (ad (n + 2)), .ref (ad (n + 3)), .ref (ad (n + 8)), .ref (ad (n + 10)), .ref (ad (n + 12)), .null, .null, .null, .null])) := ⟨_, rfl⟩
  have hw : np_W D (ix_L ad (n + 14)) f1 (np_A (ix_L ad0 n) sz) s.heap H locs := by rw [hf1]; exact hw
  have hF : f1 (ad p0) = .inr (4, [.int 0, .ref (ad n), .ref (ad (n + 2)), .ref (ad (n + 3)), .ref (ad (n + 8)), .ref (ad (n + 10)), .ref (ad (n + 12)), .null, .null, .null, .null]) := by rw [hf1]; exact va_up_self _ _ _
  have hfr : ∀ i, i < n + 14 → i ≠ p0 → f1 (ad i) = f (ad i) := fun i h1 h2 => by rw [hf1]; exact va_up_ne _ _ (fun h => h2 (hinj h1 (by omega) h))
  have FL := tp_W hfr (by omega) (by omega) FL
  have hPL := tp_PL hfr (by omega) (by omega) hPL
  have FM := tp_B hfr (by omega) (by omega) FM
  have FX0 := tp_W hfr (by omega) (by omega) FX0
  have FX1 := tp_W hfr (by omega) (by omega) FX1
  have FX2 := tp_W hfr (by omega) (by omega) FX2
  have hO : ∀ i, i < n → i ≠ p0 → f1 (ad i) = f0 (ad0 i) := fun i h1 h2 => (hfr i (by omega) h2).trans (hO i h1 h2)
  clear hf1 hfr
  generalize f1 = f at *
  refine lv_aload_n hx hb dX4_init_68 rfl (lv_at hl 0 rfl) ?_
  refine ix_mk (C0 := RX3) (T0 := TX3) (N := 3) (ci := 3) (fs := [.null, .int 0, .int 0]) (k := 1) (X := ix_XW T) (host := "BallDesk") (fun n ad f sz p0 h1 h2 => i3_init l D T n ad f sz p0 h1 h2) C (by decide +kernel) tyX3 tyX3_ok (by decide +kernel) (by decide +kernel) (by decide +kernel) hsz hw rfl (fun j hj => by rcases (show j = 0 ∨ j = 1 ∨ j = 2 by omega) with rfl | rfl | rfl <;> rfl) ⟨va_cnB 0 hts gX4_init_X3_init_n9 rfl rfl rfl (hNs _ (by decide +kernel)) (hts (.initialized RX3) (by decide +kernel)) (by decide +kernel) ⟨(Nat.le_of_ble_eq_true rfl), (Nat.le_of_ble_eq_true rfl)⟩, rfl, hts (.instanceMethod yX3_init) (by decide +kernel)⟩ hl.1 (Nat.le_of_ble_eq_true rfl) ⟨(Nat.le_of_ble_eq_true rfl), (Nat.le_of_ble_eq_true rfl)⟩ dX4_init_69 dX4_init_72 dX4_init_73 (fun ad f H locs he hfr hX hw => ?_)
  have hw : np_W D (ix_L ad (n + 16)) f (np_A (ix_L ad0 n) sz) s.heap H locs := hw
  have hinj := fun {i j : Nat} => ix_inj hw.2.1 (i := i) (j := j)
  have hF : f (ad p0) = .inr (4, [.int 0, .ref (ad n), .ref (ad (n + 2)), .ref (ad (n + 3)), .ref (ad (n + 8)), .ref (ad (n + 10)), .ref (ad (n + 12)), .null, .null, .null, .null]) := by rw [hfr p0 (by omega), hF, he n (by omega), he (n + 2) (by omega), he (n + 8) (by omega), he (n + 3) (by omega), he (n + 10) (by omega), he (n + 12) (by omega)]
  have FL := tr_W he hfr (by omega) FL
  have hPL := tr_PL he hfr (by omega) hPL
  have FM := tr_B he hfr (by omega) FM
  have FX0 := tr_W he hfr (by omega) FX0
  have FX1 := tr_W he hfr (by omega) FX1
  have FX2 := tr_W he hfr (by omega) FX2
  have hE : ix_e n ad0 ad := fun i hi => (he i (by omega)).trans (hE i hi)
  have hO : ∀ i, i < n → i ≠ p0 → f (ad i) = f0 (ad0 i) := fun i h1 h2 => (hfr i (by omega)).trans (hO i h1 h2)
  have FX3 := hX
  refine np_putF (C0 := RX4) (T0 := TX4) (N := 11) (ci := 4) (ty := .object "BallDesk$Whole") C (by decide +kernel) tyX4 tyX4_ok nmX4 hw (by first | exact ix_in (by omega) | (rw [← hE p0 hp]; exact ix_in (by omega))) (by first | exact hF | (rw [← hE p0 hp]; exact hF)) rfl 7 (by decide) (by decide +kernel) rfl rfl rfl (by decide +kernel) rfl rfl (Nat.le_of_ble_eq_true rfl) dX4_init_76 (fun H locs hw => ?_)
  rw [← hE p0 hp] at hw
  obtain ⟨f1, hf1⟩ : ∃ g, g = va_up f (ad p0) (.inr (4, [.int 0, .ref (ad n), .ref (ad (n + 2)), .ref (ad (n + 3)), .ref (ad (n + 8)), .ref (ad (n + 10)), .ref (ad (n + 12)), .ref (ad (n + 14)), .null, .null, .null])) := ⟨_, rfl⟩
  have hw : np_W D (ix_L ad (n + 16)) f1 (np_A (ix_L ad0 n) sz) s.heap H locs := by rw [hf1]; exact hw
  have hF : f1 (ad p0) = .inr (4, [.int 0, .ref (ad n), .ref (ad (n + 2)), .ref (ad (n + 3)), .ref (ad (n + 8)), .ref (ad (n + 10)), .ref (ad (n + 12)), .ref (ad (n + 14)), .null, .null, .null]) := by rw [hf1]; exact va_up_self _ _ _
  have hfr : ∀ i, i < n + 16 → i ≠ p0 → f1 (ad i) = f (ad i) := fun i h1 h2 => by rw [hf1]; exact va_up_ne _ _ (fun h => h2 (hinj h1 (by omega) h))
  have FL := tp_W hfr (by omega) (by omega) FL
  have hPL := tp_PL hfr (by omega) (by omega) hPL
  have FM := tp_B hfr (by omega) (by omega) FM
  have FX0 := tp_W hfr (by omega) (by omega) FX0
  have FX1 := tp_W hfr (by omega) (by omega) FX1
  have FX2 := tp_W hfr (by omega) (by omega) FX2
  have FX3 := tp_W hfr (by omega) (by omega) FX3
  have hO : ∀ i, i < n → i ≠ p0 → f1 (ad i) = f0 (ad0 i) := fun i h1 h2 => (hfr i (by omega) h2).trans (hO i h1 h2)
  clear hf1 hfr
  generalize f1 = f at *
  refine lv_aload_n hx hb dX4_init_79 rfl (lv_at hl 0 rfl) ?_
  refine ix_mk (C0 := RX3) (T0 := TX3) (N := 3) (ci := 3) (fs := [.null, .int 0, .int 0]) (k := 1) (X := ix_XW T) (host := "BallDesk") (fun n ad f sz p0 h1 h2 => i3_init l D T n ad f sz p0 h1 h2) C (by decide +kernel) tyX3 tyX3_ok (by decide +kernel) (by decide +kernel) (by decide +kernel) hsz hw rfl (fun j hj => by rcases (show j = 0 ∨ j = 1 ∨ j = 2 by omega) with rfl | rfl | rfl <;> rfl) ⟨va_cnB 0 hts gX4_init_X3_init_n9 rfl rfl rfl (hNs _ (by decide +kernel)) (hts (.initialized RX3) (by decide +kernel)) (by decide +kernel) ⟨(Nat.le_of_ble_eq_true rfl), (Nat.le_of_ble_eq_true rfl)⟩, rfl, hts (.instanceMethod yX3_init) (by decide +kernel)⟩ hl.1 (Nat.le_of_ble_eq_true rfl) ⟨(Nat.le_of_ble_eq_true rfl), (Nat.le_of_ble_eq_true rfl)⟩ dX4_init_80 dX4_init_83 dX4_init_84 (fun ad f H locs he hfr hX hw => ?_)
  have hw : np_W D (ix_L ad (n + 18)) f (np_A (ix_L ad0 n) sz) s.heap H locs := hw
  have hinj := fun {i j : Nat} => ix_inj hw.2.1 (i := i) (j := j)
  have hF : f (ad p0) = .inr (4, [.int 0, .ref (ad n), .ref (ad (n + 2)), .ref (ad (n + 3)), .ref (ad (n + 8)), .ref (ad (n + 10)), .ref (ad (n + 12)), .ref (ad (n + 14)), .null, .null, .null]) := by rw [hfr p0 (by omega), hF, he n (by omega), he (n + 2) (by omega), he (n + 8) (by omega), he (n + 3) (by omega), he (n + 10) (by omega), he (n + 12) (by omega), he (n + 14) (by omega)]
  have FL := tr_W he hfr (by omega) FL
  have hPL := tr_PL he hfr (by omega) hPL
  have FM := tr_B he hfr (by omega) FM
  have FX0 := tr_W he hfr (by omega) FX0
  have FX1 := tr_W he hfr (by omega) FX1
  have FX2 := tr_W he hfr (by omega) FX2
  have FX3 := tr_W he hfr (by omega) FX3
  have hE : ix_e n ad0 ad := fun i hi => (he i (by omega)).trans (hE i hi)
  have hO : ∀ i, i < n → i ≠ p0 → f (ad i) = f0 (ad0 i) := fun i h1 h2 => (hfr i (by omega)).trans (hO i h1 h2)
  have FX4 := hX
  refine np_putF (C0 := RX4) (T0 := TX4) (N := 11) (ci := 4) (ty := .object "BallDesk$Whole") C (by decide +kernel) tyX4 tyX4_ok nmX4 hw (by first | exact ix_in (by omega) | (rw [← hE p0 hp]; exact ix_in (by omega))) (by first | exact hF | (rw [← hE p0 hp]; exact hF)) rfl 8 (by decide) (by decide +kernel) rfl rfl rfl (by decide +kernel) rfl rfl (Nat.le_of_ble_eq_true rfl) dX4_init_87 (fun H locs hw => ?_)
  rw [← hE p0 hp] at hw
  obtain ⟨f1, hf1⟩ : ∃ g, g = va_up f (ad p0) (.inr (4, [.int 0, .ref (ad n), .ref (ad (n + 2)), .ref (ad (n + 3)), .ref (ad (n + 8)), .ref (ad (n + 10)), .ref (ad (n + 12)), .ref (ad (n + 14)), .ref (ad (n + 16)), .null, .null])) := ⟨_, rfl⟩
  have hw : np_W D (ix_L ad (n + 18)) f1 (np_A (ix_L ad0 n) sz) s.heap H locs := by rw [hf1]; exact hw
  have hF : f1 (ad p0) = .inr (4, [.int 0, .ref (ad n), .ref (ad (n + 2)), .ref (ad (n + 3)), .ref (ad (n + 8)), .ref (ad (n + 10)), .ref (ad (n + 12)), .ref (ad (n + 14)), .ref (ad (n + 16)), .null, .null]) := by rw [hf1]; exact va_up_self _ _ _
  have hfr : ∀ i, i < n + 18 → i ≠ p0 → f1 (ad i) = f (ad i) := fun i h1 h2 => by rw [hf1]; exact va_up_ne _ _ (fun h => h2 (hinj h1 (by omega) h))
  have FL := tp_W hfr (by omega) (by omega) FL
  have hPL := tp_PL hfr (by omega) (by omega) hPL
  have FM := tp_B hfr (by omega) (by omega) FM
  have FX0 := tp_W hfr (by omega) (by omega) FX0
  have FX1 := tp_W hfr (by omega) (by omega) FX1
  have FX2 := tp_W hfr (by omega) (by omega) FX2
  have FX3 := tp_W hfr (by omega) (by omega) FX3
  have FX4 := tp_W hfr (by omega) (by omega) FX4
  have hO : ∀ i, i < n → i ≠ p0 → f1 (ad i) = f0 (ad0 i) := fun i h1 h2 => (hfr i (by omega) h2).trans (hO i h1 h2)
  clear hf1 hfr
  generalize f1 = f at *
  refine lv_aload_n hx hb dX4_init_90 rfl (lv_at hl 0 rfl) ?_
  refine ix_mk (C0 := RX1) (T0 := TX1) (N := 4) (ci := 1) (fs := [.null, .null, .int 0, .int 0]) (k := 2) (X := ix_XD T) (host := "BallDesk") (fun n ad f sz p0 h1 h2 => i1_init l D T n ad f sz p0 h1 h2) C (by decide +kernel) tyX1 tyX1_ok (by decide +kernel) (by decide +kernel) (by decide +kernel) hsz hw rfl (fun j hj => by rcases (show j = 0 ∨ j = 1 ∨ j = 2 ∨ j = 3 by omega) with rfl | rfl | rfl | rfl <;> rfl) ⟨va_cnB 0 hts gX4_init_X1_init_n44 rfl rfl rfl (hNs _ (by decide +kernel)) (hts (.initialized RX1) (by decide +kernel)) (by decide +kernel) ⟨(Nat.le_of_ble_eq_true rfl), (Nat.le_of_ble_eq_true rfl)⟩, rfl, hts (.instanceMethod yX1_init) (by decide +kernel)⟩ hl.1 (Nat.le_of_ble_eq_true rfl) ⟨(Nat.le_of_ble_eq_true rfl), (Nat.le_of_ble_eq_true rfl)⟩ dX4_init_91 dX4_init_94 dX4_init_95 (fun ad f H locs he hfr hX hw => ?_)
  have hw : np_W D (ix_L ad (n + 21)) f (np_A (ix_L ad0 n) sz) s.heap H locs := hw
  have hinj := fun {i j : Nat} => ix_inj hw.2.1 (i := i) (j := j)
  have hF : f (ad p0) = .inr (4, [.int 0, .ref (ad n), .ref (ad (n + 2)), .ref (ad (n + 3)), .ref (ad (n + 8)), .ref (ad (n + 10)), .ref (ad (n + 12)), .ref (ad (n + 14)), .ref (ad (n + 16)), .null, .null]) := by rw [hfr p0 (by omega), hF, he n (by omega), he (n + 2) (by omega), he (n + 8) (by omega), he (n + 3) (by omega), he (n + 16) (by omega), he (n + 10) (by omega), he (n + 12) (by omega), he (n + 14) (by omega)]
  have FL := tr_W he hfr (by omega) FL
  have hPL := tr_PL he hfr (by omega) hPL
  have FM := tr_B he hfr (by omega) FM
  have FX0 := tr_W he hfr (by omega) FX0
  have FX1 := tr_W he hfr (by omega) FX1
  have FX2 := tr_W he hfr (by omega) FX2
  have FX3 := tr_W he hfr (by omega) FX3
  have FX4 := tr_W he hfr (by omega) FX4
  have hE : ix_e n ad0 ad := fun i hi => (he i (by omega)).trans (hE i hi)
  have hO : ∀ i, i < n → i ≠ p0 → f (ad i) = f0 (ad0 i) := fun i h1 h2 => (hfr i (by omega)).trans (hO i h1 h2)
  have FD := hX
  refine np_putF (C0 := RX4) (T0 := TX4) (N := 11) (ci := 4) (ty := .object "BallDesk$Division") C (by decide +kernel) tyX4 tyX4_ok nmX4 hw (by first | exact ix_in (by omega) | (rw [← hE p0 hp]; exact ix_in (by omega))) (by first | exact hF | (rw [← hE p0 hp]; exact hF)) rfl 9 (by decide) (by decide +kernel) rfl rfl rfl (by decide +kernel) rfl rfl (Nat.le_of_ble_eq_true rfl) dX4_init_98 (fun H locs hw => ?_)
  rw [← hE p0 hp] at hw
  obtain ⟨f1, hf1⟩ : ∃ g, g = va_up f (ad p0) (.inr (4, [.int 0, .ref (ad n), .ref (ad (n + 2)), .ref (ad (n + 3)), .ref (ad (n + 8)), .ref (ad (n + 10)), .ref (ad (n + 12)), .ref (ad (n + 14)), .ref (ad (n + 16)), .ref (ad (n + 18)), .null])) := ⟨_, rfl⟩
  have hw : np_W D (ix_L ad (n + 21)) f1 (np_A (ix_L ad0 n) sz) s.heap H locs := by rw [hf1]; exact hw
  have hF : f1 (ad p0) = .inr (4, [.int 0, .ref (ad n), .ref (ad (n + 2)), .ref (ad (n + 3)), .ref (ad (n + 8)), .ref (ad (n + 10)), .ref (ad (n + 12)), .ref (ad (n + 14)), .ref (ad (n + 16)), .ref (ad (n + 18)), .null]) := by rw [hf1]; exact va_up_self _ _ _
  have hfr : ∀ i, i < n + 21 → i ≠ p0 → f1 (ad i) = f (ad i) := fun i h1 h2 => by rw [hf1]; exact va_up_ne _ _ (fun h => h2 (hinj h1 (by omega) h))
  have FL := tp_W hfr (by omega) (by omega) FL
  have hPL := tp_PL hfr (by omega) (by omega) hPL
  have FM := tp_B hfr (by omega) (by omega) FM
  have FX0 := tp_W hfr (by omega) (by omega) FX0
  have FX1 := tp_W hfr (by omega) (by omega) FX1
  have FX2 := tp_W hfr (by omega) (by omega) FX2
  have FX3 := tp_W hfr (by omega) (by omega) FX3
  have FX4 := tp_W hfr (by omega) (by omega) FX4
  have FD := tp_D hfr (by omega) (by omega) FD
  have hO : ∀ i, i < n → i ≠ p0 → f1 (ad i) = f0 (ad0 i) := fun i h1 h2 => (hfr i (by omega) h2).trans (hO i h1 h2)
  clear hf1 hfr
  generalize f1 = f at *
  refine lv_aload_n hx hb dX4_init_101 rfl (lv_at hl 0 rfl) ?_
  refine lv_bipush (v := nI 16) hx hb dX4_init_102 (by decide) ?_
  refine lv_sipush (v := nI 192) hx hb dX4_init_104 (by decide) ?_
  refine lv_iload_n hx hb dX4_init_107 rfl (lv_at hl 1 rfl) ?_
  refine va_mmin hx hb (hml.trans hl.1.symm) hown (hts (.methodLink RX4 49 Lib.Math.min.name) (by decide +kernel)) (hts (.static Lib.Math.min.name) (by decide +kernel)) (hts (.initialized "java/lang/Math") (by decide +kernel)) (hts (.code Lib.Math.min.name Lib.Math.min.code 2 (some .int)) (by decide +kernel)) (Nat.le_of_ble_eq_true rfl) (Nat.le_of_ble_eq_true rfl) (Nat.le_of_ble_eq_true rfl) (Nat.le_of_ble_eq_true rfl) dX4_init_108 ?_
  refine va_mmax hx hb (hml.trans hl.1.symm) hown (hts (.methodLink RX4 55 Lib.Math.max.name) (by decide +kernel)) (hts (.static Lib.Math.max.name) (by decide +kernel)) (hts (.initialized "java/lang/Math") (by decide +kernel)) (hts (.code Lib.Math.max.name Lib.Math.max.code 2 (some .int)) (by decide +kernel)) (Nat.le_of_ble_eq_true rfl) (Nat.le_of_ble_eq_true rfl) (Nat.le_of_ble_eq_true rfl) (Nat.le_of_ble_eq_true rfl) dX4_init_111 ?_
  rw [dk_bitsc]
  refine np_putF (C0 := RX4) (T0 := TX4) (N := 11) (ci := 4) (ty := .int) C (by decide +kernel) tyX4 tyX4_ok nmX4 hw (by first | exact ix_in (by omega) | (rw [← hE p0 hp]; exact ix_in (by omega))) (by first | exact hF | (rw [← hE p0 hp]; exact hF)) rfl 0 (by decide) (by decide +kernel) rfl rfl rfl (by decide +kernel) rfl rfl (Nat.le_of_ble_eq_true rfl) dX4_init_114 (fun H locs hw => ?_)
  rw [← hE p0 hp] at hw
  obtain ⟨f1, hf1⟩ : ∃ g, g = va_up f (ad p0) (.inr (4, [.int (nI (dk_bits bv)), .ref (ad n), .ref (ad (n + 2)), .ref (ad (n + 3)), .ref (ad (n + 8)), .ref (ad (n + 10)), .ref (ad (n + 12)), .ref (ad (n + 14)), .ref (ad (n + 16)), .ref (ad (n + 18)), .null])) := ⟨_, rfl⟩
  have hw : np_W D (ix_L ad (n + 21)) f1 (np_A (ix_L ad0 n) sz) s.heap H locs := by rw [hf1]; exact hw
  have hF : f1 (ad p0) = .inr (4, [.int (nI (dk_bits bv)), .ref (ad n), .ref (ad (n + 2)), .ref (ad (n + 3)), .ref (ad (n + 8)), .ref (ad (n + 10)), .ref (ad (n + 12)), .ref (ad (n + 14)), .ref (ad (n + 16)), .ref (ad (n + 18)), .null]) := by rw [hf1]; exact va_up_self _ _ _
  have hfr : ∀ i, i < n + 21 → i ≠ p0 → f1 (ad i) = f (ad i) := fun i h1 h2 => by rw [hf1]; exact va_up_ne _ _ (fun h => h2 (hinj h1 (by omega) h))
  have FL := tp_W hfr (by omega) (by omega) FL
  have hPL := tp_PL hfr (by omega) (by omega) hPL
  have FM := tp_B hfr (by omega) (by omega) FM
  have FX0 := tp_W hfr (by omega) (by omega) FX0
  have FX1 := tp_W hfr (by omega) (by omega) FX1
  have FX2 := tp_W hfr (by omega) (by omega) FX2
  have FX3 := tp_W hfr (by omega) (by omega) FX3
  have FX4 := tp_W hfr (by omega) (by omega) FX4
  have FD := tp_D hfr (by omega) (by omega) FD
  have hO : ∀ i, i < n → i ≠ p0 → f1 (ad i) = f0 (ad0 i) := fun i h1 h2 => (hfr i (by omega) h2).trans (hO i h1 h2)
  clear hf1 hfr
  generalize f1 = f at *
  refine lv_aload_n hx hb dX4_init_117 rfl (lv_at hl 0 rfl) ?_
  refine np_g (C0 := RX4) (T0 := TX4) (M := 11) (ci := 4) C (by decide +kernel) hw (by rw [← hE p0 hp]; exact ix_in (by omega)) (by rw [← hE p0 hp]; exact hF) rfl 1 (by decide) (v := .ref (ad n)) rfl rfl dX4_init_118 (by decide +kernel) ?_
  refine lv_aload_n hx hb dX4_init_121 rfl (lv_at hl 0 rfl) ?_
  refine np_g (C0 := RX4) (T0 := TX4) (M := 11) (ci := 4) C (by decide +kernel) hw (by rw [← hE p0 hp]; exact ix_in (by omega)) (by rw [← hE p0 hp]; exact hF) rfl 0 (by decide) (v := .int (nI (dk_bits bv))) rfl rfl dX4_init_122 (by decide +kernel) ?_
  refine lv_bipush (v := nI 48) hx hb dX4_init_125 (by decide) ?_
  refine bd_iadd (v := nI ((dk_bits bv) + 48)) hx hb dX4_init_127 (nI_add _ _) ?_
  refine np_pow (k := n) (v := (dk_bits bv) + 48) C hsz hw (fun q hq => by obtain ⟨i, hi, rfl⟩ := ix_of hq; rw [← hE i hi]; exact ix_in (by omega)) (by omega) FL (by omega) (cwV 1 hts gX4_init_X3_becomePower rfl rfl rfl (by decide +kernel) ⟨(Nat.le_of_ble_eq_true rfl), (Nat.le_of_ble_eq_true rfl)⟩) dX4_init_128 hl.1 (Nat.le_of_ble_eq_true rfl) ⟨(Nat.le_of_ble_eq_true rfl), (Nat.le_of_ble_eq_true rfl)⟩ (fun f1 H locs hfr hV hw => ?_)
  have hF : f1 (ad p0) = .inr (4, [.int (nI (dk_bits bv)), .ref (ad n), .ref (ad (n + 2)), .ref (ad (n + 3)), .ref (ad (n + 8)), .ref (ad (n + 10)), .ref (ad (n + 12)), .ref (ad (n + 14)), .ref (ad (n + 16)), .ref (ad (n + 18)), .null]) := (hfr p0 (by omega) (by omega) (by omega)).trans hF
  have hPL : ix_PL T n 0 ad f1 := (hfr (n + 2) (by omega) (by omega) (by omega)).trans hPL
  have FM := tq_B hfr (by omega) (by omega) FM
  have FX0 := tq_W hfr (by omega) (by omega) FX0
  have FX1 := tq_W hfr (by omega) (by omega) FX1
  have FX2 := tq_W hfr (by omega) (by omega) FX2
  have FX3 := tq_W hfr (by omega) (by omega) FX3
  have FX4 := tq_W hfr (by omega) (by omega) FX4
  have FD := tq_D hfr (by omega) (by omega) FD
  have hO : ∀ i, i < n → i ≠ p0 → f1 (ad i) = f0 (ad0 i) := fun i h1 h2 => (hfr i (by omega) (by omega) (by omega)).trans (hO i h1 h2)
  clear hfr FL
  generalize f1 = f at *
  refine lv_iconst (v := nI 0) hx hb dX4_init_131 (by decide) ?_
  refine lv_istore_n (lv' := [(2, .int (nI 0)), (0, .ref (ad0 p0)), (1, .int bv)]) hx hb dX4_init_132 rfl hl (by decide) rfl (fun ls hl => ?_)
  have hRc : (headSpec wsX4_init ({ frames := 3, cells := 105, slots := 1290, locals := 100 })).room.cells = 105 := rfl
  have hRs : (headSpec wsX4_init ({ frames := 3, cells := 105, slots := 1290, locals := 100 })).room.slots = 1290 := rfl
  suffices hloop : ∀ (d9 k : Nat) (ad : Nat → Nat) (f : Nat → va_E) (ls : Array Slot) (H : Heap) (locs : List Loc), k + d9 = 12 → ix_e n ad0 ad → (∀ i, i < n → i ≠ p0 → f (ad i) = f0 (ad0 i)) → (f (ad p0) = .inr (4, [.int (nI (dk_bits bv)), .ref (ad n), .ref (ad (n + 2)), .ref (ad (n + 3)), .ref (ad (n + 8)), .ref (ad (n + 10)), .ref (ad (n + 12)), .ref (ad (n + 14)), .ref (ad (n + 16)), .ref (ad (n + 18)), .null])) → (ix_V T n ad f ((2 ^ ((dk_bits bv) + 48) : Nat) : Int)) → (ix_PL T n k ad f) → (ix_XB T (n + 4) (n + 3) ad f) → (ix_XW T (n + 9) (n + 8) ad f) → (ix_XW T (n + 11) (n + 10) ad f) → (ix_XW T (n + 13) (n + 12) ad f) → (ix_XW T (n + 15) (n + 14) ad f) → (ix_XW T (n + 17) (n + 16) ad f) → (ix_XD T (n + 19) (n + 18) ad f) → (∀ j, j < k → ix_XB T (n + 21 + 5 * j + 1) (n + 21 + 5 * j) ad f) → np_W D (ix_L ad (n + 21 + 5 * k)) f (np_A (ix_L ad0 n) sz) s.heap H locs → lv_has ls 3 [(2, .int (nI k)), (0, .ref (ad0 p0)), (1, .int bv)] → W p l e (headSpec wsX4_init ({ frames := 3, cells := 105, slots := 1290, locals := 100 })).room s m [.ref (ad0 p0), .int bv].toArray below meth c H locs (21 + 5 * k) (283 + 56 * k) (MQ below (va_Qv (ix_q n 105 p0 ad0 f0 (ix_X4 T (dk_bits bv) n p0)) (np_B D T (ix_L ad0 n) sz) (np_A (ix_L ad0 n) sz)) [.ref (ad0 p0), .int bv].toArray s 105 1290 (np_A (ix_L ad0 n) sz)) (F0 m 133 ls []) from hloop 12 0 ad f ls H locs (by omega) hE hO hF hV hPL FM FX0 FX1 FX2 FX3 FX4 FD (fun j hj => absurd hj (by omega)) hw hl
  clear hw hl hinj hE hO hF hV hPL FM FX0 FX1 FX2 FX3 FX4 FD hf
  intro d9
  induction d9 using Nat.strongRecOn with
  | ind d9 ih =>
    intro k ad f ls H locs hkd hE hO hF hV hPL FM FX0 FX1 FX2 FX3 FX4 FD FB hw hl
    have hinj := fun {i j : Nat} => ix_inj hw.2.1 (i := i) (j := j)
    refine lv_iload_n hx hb dX4_init_133 rfl (lv_at hl 0 rfl) ?_
    refine lv_bipush (v := nI 12) hx hb dX4_init_134 (by decide) ?_
    refine bd_ige (h1 := by omega) (h2 := by omega) (tgt := 158) hx hb dX4_init_136 (by decide) (fun hc => ?_) (fun hc => ?_)
    · have hk12 : k = 12 := by omega
      subst hk12
      refine lv_aload_n hx hb dX4_init_158 rfl (lv_at hl 1 rfl) ?_
      have hw : np_W D (ix_L ad (n + 81)) f (np_A (ix_L ad0 n) sz) s.heap H locs := hw
      refine np_new (C0 := RX2) (T0 := TX2) (N := 12) (ci := 2) (fs := [.int 0, .null, .null, .null, .null, .null, .null, .null, .null, .null, .null, .null]) C (by decide +kernel) tyX2 tyX2_ok (by decide +kernel) (by decide +kernel) (by decide +kernel) hsz hw rfl (fun j hj => by rcases (show j = 0 ∨ j = 1 ∨ j = 2 ∨ j = 3 ∨ j = 4 ∨ j = 5 ∨ j = 6 ∨ j = 7 ∨ j = 8 ∨ j = 9 ∨ j = 10 ∨ j = 11 by omega) with rfl | rfl | rfl | rfl | rfl | rfl | rfl | rfl | rfl | rfl | rfl | rfl <;> rfl) (by rw [hRc]; decide) (by rw [hRs]; decide) dX4_init_159 (fun q H hq hw => ?_)
      refine lv_dup hx hb dX4_init_162 rfl ?_
      refine lv_aload_n hx hb dX4_init_163 rfl (lv_at hl 1 rfl) ?_
      rw [ix_s] at hw
      obtain ⟨ad1, had1⟩ : ∃ g, g = va_up ad (n + 81) q := ⟨_, rfl⟩
      obtain ⟨f1, hf1⟩ : ∃ g, g = va_up f q (.inr (2, [.int 0, .null, .null, .null, .null, .null, .null, .null, .null, .null, .null, .null])) := ⟨_, rfl⟩
      have hw : np_W D (ix_L ad1 (n + 82)) f1 (np_A (ix_L ad0 n) sz) s.heap H locs := by rw [had1, hf1]; exact hw
      have he : ix_e (n + 81) ad ad1 := fun i hi => by rw [had1]; exact va_up_ne _ _ (by omega)
      have hqe : ad1 (n + 81) = q := by rw [had1]; exact va_up_self _ _ _
      have hfr : ∀ i, i < n + 81 → f1 (ad1 i) = f (ad i) := fun i hi => by rw [he i hi, hf1]; exact va_up_ne _ _ (fun h => hq (by rw [← h]; exact ix_in hi))
      have hF : f1 (ad1 p0) = .inr (4, [.int (nI (dk_bits bv)), .ref (ad1 n), .ref (ad1 (n + 2)), .ref (ad1 (n + 3)), .ref (ad1 (n + 8)), .ref (ad1 (n + 10)), .ref (ad1 (n + 12)), .ref (ad1 (n + 14)), .ref (ad1 (n + 16)), .ref (ad1 (n + 18)), .null]) := by rw [hfr p0 (by omega), hF, he n (by omega), he (n + 2) (by omega), he (n + 8) (by omega), he (n + 3) (by omega), he (n + 16) (by omega), he (n + 18) (by omega), he (n + 10) (by omega), he (n + 12) (by omega), he (n + 14) (by omega)]
      have hV := tr_V he hfr (by omega) hV
      have hPL := tr_PL he hfr (by omega) hPL
      have FM := tr_B he hfr (by omega) FM
      have FX0 := tr_W he hfr (by omega) FX0
      have FX1 := tr_W he hfr (by omega) FX1
      have FX2 := tr_W he hfr (by omega) FX2
      have FX3 := tr_W he hfr (by omega) FX3
      have FX4 := tr_W he hfr (by omega) FX4
      have FD := tr_D he hfr (by omega) FD
      have FB : ∀ j, j < 12 → ix_XB T (n + 21 + 5 * j + 1) (n + 21 + 5 * j) ad1 f1 := fun j hj => tr_B he hfr (by omega) (FB j hj)
      have hE : ix_e n ad0 ad1 := fun i hi => (he i (by omega)).trans (hE i hi)
      have hO : ∀ i, i < n → i ≠ p0 → f1 (ad1 i) = f0 (ad0 i) := fun i h1 h2 => (hfr i (by omega)).trans (hO i h1 h2)
      have hB2 : f1 (ad1 (n + 81)) = .inr (2, [.int 0, .null, .null, .null, .null, .null, .null, .null, .null, .null, .null, .null]) := by rw [hqe, hf1]; exact va_up_self _ _ _
      refine np_g (C0 := RX4) (T0 := TX4) (M := 11) (ci := 4) C (by decide +kernel) hw (by rw [← hE p0 hp]; exact ix_in (by omega)) (by rw [← hE p0 hp]; exact hF) rfl 0 (by decide) (v := .int (nI (dk_bits bv))) rfl rfl dX4_init_164 (by decide +kernel) ?_
      refine lv_bipush (v := nI 64) hx hb dX4_init_167 (by decide) ?_
      refine bd_iadd (v := nI ((dk_bits bv) + 64)) hx hb dX4_init_169 (nI_add _ _) ?_
      rw [← hqe]
      refine np_callI (As := [.int (nI ((dk_bits bv) + 64))]) (rest := [.ref (ad1 (n + 81)), .ref (ad0 p0)]) C (i2_init l D T (n + 82) ad1 f1 H.size (n + 81) ((dk_bits bv) + 64) (by omega) (by omega) hB2) (cwI 1 hts gX4_init_X2_init rfl rfl rfl (hts (.initialized RX2) (by decide +kernel)) (hts (.methodLink RX4 68 yX2_init) (by decide +kernel)) (hts (.instanceMethod yX2_init) (by decide +kernel)) rfl (by decide +kernel) ⟨(Nat.le_of_ble_eq_true rfl), (Nat.le_of_ble_eq_true rfl)⟩) hsz hw dX4_init_170 rfl hl.1 rfl (Nat.le_of_ble_eq_true rfl) ⟨by rw [hRc]; decide, by rw [hRs]; decide⟩ (fun L2 f2 H locs hp2 hw => ?_)
      obtain ⟨ad2, he2, hL2, hfr2, hXF⟩ := hp2
      have hL2 : L2 = ix_L ad2 (n + 105) := hL2
      rw [hL2] at hw
      clear hL2 hf1 had1 hfr he hq
      have hinj := fun {i j : Nat} => ix_inj hw.2.1 (i := i) (j := j)
      have he3 : ix_e (n + 81) ad1 ad2 := fun i hi => he2 i (by omega)
      have hfr3 : ∀ i, i < n + 81 → f2 (ad2 i) = f1 (ad1 i) := fun i hi => by rw [he3 i hi]; exact hfr2 i (by omega) (by omega)
      have hq2 : ad2 (n + 81) = ad1 (n + 81) := he2 (n + 81) (by omega)
      have hF : f2 (ad2 p0) = .inr (4, [.int (nI (dk_bits bv)), .ref (ad2 n), .ref (ad2 (n + 2)), .ref (ad2 (n + 3)), .ref (ad2 (n + 8)), .ref (ad2 (n + 10)), .ref (ad2 (n + 12)), .ref (ad2 (n + 14)), .ref (ad2 (n + 16)), .ref (ad2 (n + 18)), .null]) := by rw [hfr3 p0 (by omega), hF, he3 n (by omega), he3 (n + 2) (by omega), he3 (n + 8) (by omega), he3 (n + 3) (by omega), he3 (n + 16) (by omega), he3 (n + 18) (by omega), he3 (n + 10) (by omega), he3 (n + 12) (by omega), he3 (n + 14) (by omega)]
      have hV := tr_V he3 hfr3 (by omega) hV
      have hPL := tr_PL he3 hfr3 (by omega) hPL
      have FM := tr_B he3 hfr3 (by omega) FM
      have FX0 := tr_W he3 hfr3 (by omega) FX0
      have FX1 := tr_W he3 hfr3 (by omega) FX1
      have FX2 := tr_W he3 hfr3 (by omega) FX2
      have FX3 := tr_W he3 hfr3 (by omega) FX3
      have FX4 := tr_W he3 hfr3 (by omega) FX4
      have FD := tr_D he3 hfr3 (by omega) FD
      have FB : ∀ j, j < 12 → ix_XB T (n + 21 + 5 * j + 1) (n + 21 + 5 * j) ad2 f2 := fun j hj => tr_B he3 hfr3 (by omega) (FB j hj)
      have hE : ix_e n ad0 ad2 := fun i hi => (he3 i (by omega)).trans (hE i hi)
      have hO : ∀ i, i < n → i ≠ p0 → f2 (ad2 i) = f0 (ad0 i) := fun i h1 h2 => (hfr3 i (by omega)).trans (hO i h1 h2)
      rw [← hq2]
      refine np_putF (C0 := RX4) (T0 := TX4) (N := 11) (ci := 4) (ty := .object "BallDesk$Fine") C (by decide +kernel) tyX4 tyX4_ok nmX4 hw (by rw [← hE p0 hp]; exact ix_in (by omega)) (by rw [← hE p0 hp]; exact hF) rfl 10 (by decide) (by decide +kernel) rfl rfl rfl (by decide +kernel) rfl rfl (Nat.le_of_ble_eq_true rfl) dX4_init_173 (fun H locs hw => ?_)
      rw [← hE p0 hp] at hw
      obtain ⟨f3, hf3⟩ : ∃ g, g = va_up f2 (ad2 p0) (.inr (4, [.int (nI (dk_bits bv)), .ref (ad2 n), .ref (ad2 (n + 2)), .ref (ad2 (n + 3)), .ref (ad2 (n + 8)), .ref (ad2 (n + 10)), .ref (ad2 (n + 12)), .ref (ad2 (n + 14)), .ref (ad2 (n + 16)), .ref (ad2 (n + 18)), .ref (ad2 (n + 81))])) := ⟨_, rfl⟩
      have hw : np_W D (ix_L ad2 (n + 105)) f3 (np_A (ix_L ad0 n) sz) s.heap H locs := by rw [hf3]; exact hw
      have hF : f3 (ad2 p0) = .inr (4, [.int (nI (dk_bits bv)), .ref (ad2 n), .ref (ad2 (n + 2)), .ref (ad2 (n + 3)), .ref (ad2 (n + 8)), .ref (ad2 (n + 10)), .ref (ad2 (n + 12)), .ref (ad2 (n + 14)), .ref (ad2 (n + 16)), .ref (ad2 (n + 18)), .ref (ad2 (n + 81))]) := by rw [hf3]; exact va_up_self _ _ _
      have hf4 : ∀ i, i < n + 105 → i ≠ p0 → f3 (ad2 i) = f2 (ad2 i) := fun i h1 h2 => by rw [hf3]; exact va_up_ne _ _ (fun h => h2 (hinj h1 (by omega) h))
      refine W.widen (k := 105) (n := 1290) (by omega) (by omega) ?_
      refine np_vret C hr hlk hw dX4_init_176 ⟨ad2, hE, rfl, fun i h1 h2 => by rw [← hE i h1]; exact (hf4 i (by omega) h2).trans ((hO i h1 h2).trans (by rw [hE i h1])), hF, tp_V hf4 (by omega) (by omega) hV, tp_PL hf4 (by omega) (by omega) hPL, tp_B hf4 (by omega) (by omega) FM, fun i hi => ?_, tp_D hf4 (by omega) (by omega) FD, fun j hj => tp_B hf4 (by omega) (by omega) (FB j hj), tp_F hf4 (by omega) (by omega) hXF⟩
      rcases (show i = 0 ∨ i = 1 ∨ i = 2 ∨ i = 3 ∨ i = 4 by omega) with rfl | rfl | rfl | rfl | rfl
      · exact tp_W hf4 (by omega) (by omega) FX0
      · exact tp_W hf4 (by omega) (by omega) FX1
      · exact tp_W hf4 (by omega) (by omega) FX2
      · exact tp_W hf4 (by omega) (by omega) FX3
      · exact tp_W hf4 (by omega) (by omega) FX4
    · have hk12 : k < 12 := hc
      refine lv_aload_n hx hb dX4_init_139 rfl (lv_at hl 1 rfl) ?_
      refine np_g (C0 := RX4) (T0 := TX4) (M := 11) (ci := 4) C (by decide +kernel) hw (by rw [← hE p0 hp]; exact ix_in (by omega)) (by rw [← hE p0 hp]; exact hF) rfl 2 (by decide) (v := .ref (ad (n + 2))) rfl rfl dX4_init_140 (by decide +kernel) ?_
      refine lv_iload_n hx hb dX4_init_143 rfl (lv_at hl 0 rfl) ?_
      refine ix_mk (C0 := RX0) (T0 := TX0) (N := 2) (ci := 0) (fs := [.null, .null]) (k := 4) (X := ix_XB T) (host := "BallDesk") (fun n ad f sz p0 h1 h2 => i0_init l D T n ad f sz p0 h1 h2) C (by decide +kernel) tyX0 tyX0_ok (by decide +kernel) (by decide +kernel) (by decide +kernel) hsz hw rfl (fun j hj => by rcases (show j = 0 ∨ j = 1 by omega) with rfl | rfl <;> rfl) ⟨va_cnB 0 hts gX4_init_X0_init_n22 rfl rfl rfl (hNs _ (by decide +kernel)) (hts (.initialized RX0) (by decide +kernel)) (by decide +kernel) ⟨(Nat.le_of_ble_eq_true rfl), (Nat.le_of_ble_eq_true rfl)⟩, rfl, hts (.instanceMethod yX0_init) (by decide +kernel)⟩ hl.1 (Nat.le_of_ble_eq_true rfl) ⟨by rw [hRc]; omega, by rw [hRs]; omega⟩ dX4_init_144 dX4_init_147 dX4_init_148 (fun ad1 f1 H locs he hfr hX hw => ?_)
      have hw : np_W D (ix_L ad1 (n + 21 + 5 * k + 5)) f1 (np_A (ix_L ad0 n) sz) s.heap H locs := hw
      have hinj := fun {i j : Nat} => ix_inj hw.2.1 (i := i) (j := j)
      have hF : f1 (ad1 p0) = .inr (4, [.int (nI (dk_bits bv)), .ref (ad1 n), .ref (ad1 (n + 2)), .ref (ad1 (n + 3)), .ref (ad1 (n + 8)), .ref (ad1 (n + 10)), .ref (ad1 (n + 12)), .ref (ad1 (n + 14)), .ref (ad1 (n + 16)), .ref (ad1 (n + 18)), .null]) := by rw [hfr p0 (by omega), hF, he n (by omega), he (n + 2) (by omega), he (n + 8) (by omega), he (n + 3) (by omega), he (n + 16) (by omega), he (n + 18) (by omega), he (n + 10) (by omega), he (n + 12) (by omega), he (n + 14) (by omega)]
      have hV := tr_V he hfr (by omega) hV
      have hPL := tr_PL he hfr (by omega) hPL
      have FM := tr_B he hfr (by omega) FM
      have FX0 := tr_W he hfr (by omega) FX0
      have FX1 := tr_W he hfr (by omega) FX1
      have FX2 := tr_W he hfr (by omega) FX2
      have FX3 := tr_W he hfr (by omega) FX3
      have FX4 := tr_W he hfr (by omega) FX4
      have FD := tr_D he hfr (by omega) FD
      have FB : ∀ j, j < k → ix_XB T (n + 21 + 5 * j + 1) (n + 21 + 5 * j) ad1 f1 := fun j hj => tr_B he hfr (by omega) (FB j hj)
      have hE : ix_e n ad0 ad1 := fun i hi => (he i (by omega)).trans (hE i hi)
      have hO : ∀ i, i < n → i ≠ p0 → f1 (ad1 i) = f0 (ad0 i) := fun i h1 h2 => (hfr i (by omega)).trans (hO i h1 h2)
      rw [← he (n + 2) (by omega)]
      refine np_ast C hw (ix_in (by omega)) hPL (ix_in (by omega)) hX.1 hk12 (by decide) dX4_init_151 (fun H locs hw => ?_)
      obtain ⟨f3, hf3⟩ : ∃ g, g = va_up f1 (ad1 (n + 2)) (.inl (T.2.2, 12, .inr (.inr (.inr (.inr (va_up (fun j => if j < k then some (ad1 (n + 21 + 5 * j)) else none) k (some (ad1 (n + 21 + 5 * k))))))))) := ⟨_, rfl⟩
      have hw : np_W D (ix_L ad1 (n + 21 + 5 * (k + 1))) f3 (np_A (ix_L ad0 n) sz) s.heap H locs := by rw [hf3]; exact hw
      have hf4 : ∀ i, i < n + 21 + 5 * k + 5 → i ≠ n + 2 → f3 (ad1 i) = f1 (ad1 i) := fun i h1 h2 => by rw [hf3]; exact va_up_ne _ _ (fun h => h2 (hinj h1 (by omega) h))
      have hPL : ix_PL T n (k + 1) ad1 f3 := by unfold ix_PL; rw [hf3, va_up_self]; exact pl_s
      refine lv_iinc (v := nI (k + 1)) (lv' := [(2, .int (nI (k + 1))), (0, .ref (ad0 p0)), (1, .int bv)]) hx hb dX4_init_152 hl (k := 0) rfl (nI_1 _) (by decide) rfl (fun ls hl => ?_)
      refine lv_goto (tgt := 133) hx hb dX4_init_155 (by decide) ?_
      refine W.widen (k := 21 + 5 * (k + 1)) (n := 283 + 56 * (k + 1)) (by omega) (by omega) ?_
      refine ih (d9 - 1) (by omega) (k + 1) ad1 f3 ls H locs (by omega) hE (fun i h1 h2 => (hf4 i (by omega) (by omega)).trans (hO i h1 h2)) ((hf4 p0 (by omega) (by omega)).trans hF) (tp_V hf4 (by omega) (by omega) hV) hPL (tp_B hf4 (by omega) (by omega) FM) (tp_W hf4 (by omega) (by omega) FX0) (tp_W hf4 (by omega) (by omega) FX1) (tp_W hf4 (by omega) (by omega) FX2) (tp_W hf4 (by omega) (by omega) FX3) (tp_W hf4 (by omega) (by omega) FX4) (tp_D hf4 (by omega) (by omega) FD) (fun j hj => ?_) hw hl
      rcases Nat.lt_or_ge j k with r | r
      · exact tp_B hf4 (by omega) (by omega) (FB j r)
      · rw [show j = k by omega]
        exact tp_B hf4 (by omega) (by omega) hX
