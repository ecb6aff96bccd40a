/-! THE MODEL'S WORLD: the object mo 0 (thrown, places, fine) and its rows: limbs mo 1 (60 registers of 34 limbs), signs mo 2, sums mo 3, rest mo 4 -/
def iZ (n : Int) : Int32 := Int32.ofInt n
theorem iZ_nat (n : Nat) : iZ (n : Int) = nI n := rfl
theorem iZ_toInt {n : Int} (h1 : -2147483648 ≤ n) (h2 : n < 2147483648) : (iZ n).toInt = n := by
  exact Int32.toInt_ofInt_of_le (by omega) (by omega)
def md_l (th : Int32) (P : Nat) (mo : Nat → Nat) : List Value := [.int th, .int (nI P), .int (nI (P + 64)), .ref (mo 1), .ref (mo 2), .ref (mo 3), .ref (mo 4)]
def md_at (K : Cxt) (E : Nat → va_E) (mo : Nat → Nat) (th : Int32) (P : Nat) (F : Nat → Nat → Nat) (G : Nat → Int32) (S : Nat → Nat) (R : Nat → Nat) : Prop :=
  (∀ i, i < 5 → mo i ∈ bd_L K ∧ bd_o K (mo i)) ∧ (∀ i j, i < 5 → j < 5 → mo i = mo j → i = j) ∧ (16 ≤ P ∧ P ≤ 192) ∧ E (mo 0) = .inr (5, md_l th P mo) ∧ E (mo 1) = .inl (bd_I K, 2040, .inl (fun i => nI (F (i / 34) (i % 34)))) ∧ E (mo 2) = .inl (bd_I K, 60, .inl G) ∧ E (mo 3) = .inl (bd_J K, 70, .inr (.inl (fun i => lN (S i)))) ∧ E (mo 4) = .inl (bd_I K, 36, .inl (fun i => nI (R i)))
section MDW
variable {K : Cxt} {E : Nat → va_E} {mo : Nat → Nat} {th : Int32} {P : Nat} {F : Nat → Nat → Nat} {G : Nat → Int32} {S R9 : Nat → Nat}
theorem md_P (h : md_at K E mo th P F G S R9) : 16 ≤ P ∧ P ≤ 192 := h.2.2.1
theorem md_up (F : Nat → Nat → Nat) (r k x : Nat) (hk : k < 34) : upd (fun i => nI (F (i / 34) (i % 34))) (34 * r + k) (nI x) = fun i => nI (va_up F r (va_up (F r) k x) (i / 34) (i % 34)) := by
  funext j
  simp only [upd, va_up]
  by_cases h : j = 34 * r + k
  · rw [if_pos h, if_pos (by omega)]
    simp only [va_up]
    rw [if_pos (by omega)]
  · rw [if_neg h]
    by_cases h2 : j / 34 = r
    · rw [if_pos h2]
      simp only [va_up]
      rw [if_neg (by omega), h2]
    · rw [if_neg h2]
theorem md_upR (R : Nat → Nat) (i x : Nat) : upd (fun j => nI (R j)) i (nI x) = fun j => nI (va_up R i x j) := by
  funext j
  simp only [upd, va_up]
  split <;> rfl
theorem md_upG (G : Nat → Int32) (i : Nat) (x : Int32) : upd G i x = va_up G i x := by
  funext j
  simp only [upd, va_up]
end MDW
section MDR
variable {p : Program} {l : Launch} {e : Env} {R : Room} {s : State} {m : MethodId} {args : Array Value} {below : List Frame} {meth : Method} {c : Code} {H : Heap} {locs : List Loc} {cells slots : Nat} {Q : State → Prop}
variable {cc : ByteArray} {pc nL : Nat} {ls : Array Slot} {rest : List Value} {K : Cxt} {E : Nat → va_E} {z : Nat → Wh} {A : Nat → Prop} {Ts : List Cond} {H0 : Heap} {own : String} {ix : Nat}
variable {mo : Nat → Nat} {th : Int32} {P : Nat} {F : Nat → Nat → Nat} {G : Nat → Int32} {S R9 : Nat → Nat}
theorem md_g (C : bd_C p s m args c cc nL Ts own K) (hi : ∀ w ∈ wsX50, w ∈ Ts) (hw : bd_W K E z A H0 H locs) (hm : md_at K E mo th P F G S R9) (k : Nat) (hk : k < 7) {v : Value} (hv : (md_l th P mo)[k]? = some v) (hd : decode cc pc = .ok (.getfield ix, 3)) (hl : Cond.fieldLink own ix "BallDeskModel" (TX5 k).2.1 (TX5 k).2.2.1 ∈ Ts)
    (kk : W p l e R s m args below meth c H locs cells slots Q (F0 m (pc + 3) ls (v :: rest))) : W p l e R s m args below meth c H locs cells slots Q (F0 m pc ls (.ref (mo 0) :: rest)) := by
  obtain ⟨hx, hb, -, hown, hts, hK, hy, hNs⟩ := C
  obtain ⟨q0, hq⟩ := va_pl_get (X := []) (f := bd_e K E z) (hm.1 0 (by decide)).1
  rw [bd_e0 (hm.1 0 (by decide)).2, hm.2.2.2.1] at hq
  have hT : (TX5 k).1 = "BallDeskModel" := by
    rcases (show k = 0 ∨ k = 1 ∨ k = 2 ∨ k = 3 ∨ k = 4 ∨ k = 5 ∨ k = 6 by omega) with rfl | rfl | rfl | rfl | rfl | rfl | rfl <;> rfl
  exact va_get (D := bd_D K) (C := RX5) (T := TX5) (N := 7) (ci := 5) (v := v) hx hb hts hi hown hK hw.1 q0 hq rfl k hk (hts _ hl) (fun _ h => by rw [hT] at h; exact h) hv hd kk
theorem md_pt (C : bd_C p s m args c cc nL Ts own K) (hi : ∀ w ∈ wsX50, w ∈ Ts) (hw : bd_W K E z A H0 H locs) (hm : md_at K E mo th P F G S R9) (hd : decode cc pc = .ok (.putfield ix, 3)) (hl : Cond.fieldLink own ix "BallDeskModel" "thrown" "I" ∈ Ts) {t1 : Int32}
    (kk : ∀ (E1 : Nat → va_E) (H1 : Heap) (locs1 : List Loc), md_at K E1 mo t1 P F G S R9 → bd_W K E1 z A H0 H1 locs1 → W p l e R s m args below meth c H1 locs1 cells slots Q (F0 m (pc + 3) ls rest)) : W p l e R s m args below meth c H locs cells slots Q (F0 m pc ls (.int t1 :: .ref (mo 0) :: rest)) := by
  obtain ⟨hx, hb, -, hown, hts, hK, hy, hNs⟩ := C
  obtain ⟨m1, m2, m3, e0, e1, e2, e3, e4⟩ := hm
  have n : ∀ i, i < 5 → i ≠ 0 → mo i ≠ mo 0 := fun i h1 h2 h => h2 (m2 i 0 h1 (by decide) h)
  obtain ⟨q0, hq0⟩ := va_pl_get (X := []) (f := bd_e K E z) (m1 0 (by decide)).1
  have hq := hq0
  rw [bd_e0 (m1 0 (by decide)).2, e0] at hq
  exact va_put (D := bd_D K) (C := RX5) (T := TX5) (N := 7) (ci := 5) (ty := .int) (v := .int t1) hx hb hts hi tyX5 tyX5_ok nmX5 hown hK hw.1 hw.2.1 hw.2.2 q0 hq rfl 0 (by decide) (hts _ hl) (fun _ h => h) rfl (by decide +kernel) rfl rfl (Nat.le_of_ble_eq_true rfl) hd (fun H1 locs1 h1 h2 h3 => kk (va_up E (mo 0) (.inr (5, md_l t1 P mo))) H1 locs1 ⟨m1, m2, m3, va_up_self _ _ _, by rw [va_up_ne _ _ (n 1 (by decide) (by decide))]; exact e1, by rw [va_up_ne _ _ (n 2 (by decide) (by decide))]; exact e2, by rw [va_up_ne _ _ (n 3 (by decide) (by decide))]; exact e3, by rw [va_up_ne _ _ (n 4 (by decide) (by decide))]; exact e4⟩ (bd_set hw.2.1 (m1 0 (by decide)).1 hq0 (bd_u0 (m1 0 (by decide)).2 _) h1 h2 h3))
theorem md_ld1 (C : bd_C p s m args c cc nL Ts own K) (hw : bd_W K E z A H0 H locs) (hm : md_at K E mo th P F G S R9) {r k : Nat} (hd : decode cc pc = .ok (.iaload, 1)) (hr : r < 60) (hk : k < 34)
    (kk : W p l e R s m args below meth c H locs cells slots Q (F0 m (pc + 1) ls (.int (nI (F r k)) :: rest))) : W p l e R s m args below meth c H locs cells slots Q (F0 m pc ls (.int (nI (34 * r + k)) :: .ref (mo 1) :: rest)) := by
  obtain ⟨hx, hb, -, hown, hts, hK, hy, hNs⟩ := C
  obtain ⟨m1, m2, m3, e0, e1, e2, e3, e4⟩ := hm
  obtain ⟨q0, hq⟩ := va_pl_get (X := []) (f := bd_e K E z) (m1 1 (by decide)).1
  rw [bd_e0 (m1 1 (by decide)).2, e1] at hq
  have h9 := va_iald (m := m) (args := args) (l := l) (e := e) (R := R) (below := below) (meth := meth) (locs := locs) (cells := cells) (slots := slots) (Q := Q) (ls := ls) (rest := rest) (D := bd_D K) hx hb hK hw.1 q0 0 hq rfl (vp_in_nI (n := 34 * r + k) (by omega) (by decide)) hd
  rw [nI_clamp (by omega), show (34 * r + k) / 34 = r by omega, show (34 * r + k) % 34 = k by omega] at h9
  exact h9 kk
theorem md_st1 (C : bd_C p s m args c cc nL Ts own K) (hw : bd_W K E z A H0 H locs) (hm : md_at K E mo th P F G S R9) {r k x : Nat} (hd : decode cc pc = .ok (.iastore, 1)) (hr : r < 60) (hk : k < 34)
    (kk : ∀ (E1 : Nat → va_E) (H1 : Heap) (locs1 : List Loc), md_at K E1 mo th P (va_up F r (va_up (F r) k x)) G S R9 → bd_W K E1 z A H0 H1 locs1 → W p l e R s m args below meth c H1 locs1 cells slots Q (F0 m (pc + 1) ls rest)) : W p l e R s m args below meth c H locs cells slots Q (F0 m pc ls (.int (nI x) :: .int (nI (34 * r + k)) :: .ref (mo 1) :: rest)) := by
  obtain ⟨hx, hb, -, hown, hts, hK, hy, hNs⟩ := C
  obtain ⟨m1, m2, m3, e0, e1, e2, e3, e4⟩ := hm
  have n : ∀ i, i < 5 → i ≠ 1 → mo i ≠ mo 1 := fun i h1 h2 h => h2 (m2 i 1 h1 (by decide) h)
  obtain ⟨q0, hq0⟩ := va_pl_get (X := []) (f := bd_e K E z) (m1 1 (by decide)).1
  have hq := hq0
  rw [bd_e0 (m1 1 (by decide)).2, e1] at hq
  have h9 := va_iast (m := m) (args := args) (l := l) (e := e) (R := R) (below := below) (meth := meth) (cells := cells) (slots := slots) (Q := Q) (ls := ls) (rest := rest) (x := nI x) (D := bd_D K) hx hb hK hw.1 hw.2.1 hw.2.2 q0 0 hq rfl (vp_in_nI (n := 34 * r + k) (by omega) (by decide)) hd
  rw [nI_clamp (by omega), md_up F r k x hk] at h9
  exact h9 (fun H1 locs1 h1 h2 h3 => kk _ H1 locs1 ⟨m1, m2, m3, by rw [va_up_ne _ _ (n 0 (by decide) (by decide))]; exact e0, va_up_self _ _ _, by rw [va_up_ne _ _ (n 2 (by decide) (by decide))]; exact e2, by rw [va_up_ne _ _ (n 3 (by decide) (by decide))]; exact e3, by rw [va_up_ne _ _ (n 4 (by decide) (by decide))]; exact e4⟩ (bd_set hw.2.1 (m1 1 (by decide)).1 hq0 (bd_u0 (m1 1 (by decide)).2 _) h1 h2 h3))
theorem md_ld2 (C : bd_C p s m args c cc nL Ts own K) (hw : bd_W K E z A H0 H locs) (hm : md_at K E mo th P F G S R9) {r : Nat} (hd : decode cc pc = .ok (.iaload, 1)) (hr : r < 60)
    (kk : W p l e R s m args below meth c H locs cells slots Q (F0 m (pc + 1) ls (.int (G r) :: rest))) : W p l e R s m args below meth c H locs cells slots Q (F0 m pc ls (.int (nI r) :: .ref (mo 2) :: rest)) := by
  obtain ⟨hx, hb, -, hown, hts, hK, hy, hNs⟩ := C
  obtain ⟨m1, m2, m3, e0, e1, e2, e3, e4⟩ := hm
  obtain ⟨q0, hq⟩ := va_pl_get (X := []) (f := bd_e K E z) (m1 2 (by decide)).1
  rw [bd_e0 (m1 2 (by decide)).2, e2] at hq
  have h9 := va_iald (m := m) (args := args) (l := l) (e := e) (R := R) (below := below) (meth := meth) (locs := locs) (cells := cells) (slots := slots) (Q := Q) (ls := ls) (rest := rest) (D := bd_D K) hx hb hK hw.1 q0 0 hq rfl (vp_in_nI (n := r) (by omega) (by decide)) hd
  rw [nI_clamp (by omega)] at h9
  exact h9 kk
theorem md_st2 (C : bd_C p s m args c cc nL Ts own K) (hw : bd_W K E z A H0 H locs) (hm : md_at K E mo th P F G S R9) {r : Nat} {x : Int32} (hd : decode cc pc = .ok (.iastore, 1)) (hr : r < 60)
    (kk : ∀ (E1 : Nat → va_E) (H1 : Heap) (locs1 : List Loc), md_at K E1 mo th P F (va_up G r x) S R9 → bd_W K E1 z A H0 H1 locs1 → W p l e R s m args below meth c H1 locs1 cells slots Q (F0 m (pc + 1) ls rest)) : W p l e R s m args below meth c H locs cells slots Q (F0 m pc ls (.int x :: .int (nI r) :: .ref (mo 2) :: rest)) := by
  obtain ⟨hx, hb, -, hown, hts, hK, hy, hNs⟩ := C
  obtain ⟨m1, m2, m3, e0, e1, e2, e3, e4⟩ := hm
  have n : ∀ i, i < 5 → i ≠ 2 → mo i ≠ mo 2 := fun i h1 h2 h => h2 (m2 i 2 h1 (by decide) h)
  obtain ⟨q0, hq0⟩ := va_pl_get (X := []) (f := bd_e K E z) (m1 2 (by decide)).1
  have hq := hq0
  rw [bd_e0 (m1 2 (by decide)).2, e2] at hq
  have h9 := va_iast (m := m) (args := args) (l := l) (e := e) (R := R) (below := below) (meth := meth) (cells := cells) (slots := slots) (Q := Q) (ls := ls) (rest := rest) (x := x) (D := bd_D K) hx hb hK hw.1 hw.2.1 hw.2.2 q0 0 hq rfl (vp_in_nI (n := r) (by omega) (by decide)) hd
  rw [nI_clamp (by omega), md_upG] at h9
  exact h9 (fun H1 locs1 h1 h2 h3 => kk _ H1 locs1 ⟨m1, m2, m3, by rw [va_up_ne _ _ (n 0 (by decide) (by decide))]; exact e0, by rw [va_up_ne _ _ (n 1 (by decide) (by decide))]; exact e1, va_up_self _ _ _, by rw [va_up_ne _ _ (n 3 (by decide) (by decide))]; exact e3, by rw [va_up_ne _ _ (n 4 (by decide) (by decide))]; exact e4⟩ (bd_set hw.2.1 (m1 2 (by decide)).1 hq0 (bd_u0 (m1 2 (by decide)).2 _) h1 h2 h3))
theorem md_ld3 (C : bd_C p s m args c cc nL Ts own K) (hw : bd_W K E z A H0 H locs) (hm : md_at K E mo th P F G S R9) {r : Nat} (hd : decode cc pc = .ok (.laload, 1)) (hr : r < 70)
    (kk : W p l e R s m args below meth c H locs cells slots Q (F0 m (pc + 1) ls (.long (lN (S r)) :: rest))) : W p l e R s m args below meth c H locs cells slots Q (F0 m pc ls (.int (nI r) :: .ref (mo 3) :: rest)) := by
  obtain ⟨hx, hb, -, hown, hts, hK, hy, hNs⟩ := C
  obtain ⟨m1, m2, m3, e0, e1, e2, e3, e4⟩ := hm
  obtain ⟨q0, hq⟩ := va_pl_get (X := []) (f := bd_e K E z) (m1 3 (by decide)).1
  rw [bd_e0 (m1 3 (by decide)).2, e3] at hq
  have h9 := va_lald (m := m) (args := args) (l := l) (e := e) (R := R) (below := below) (meth := meth) (locs := locs) (cells := cells) (slots := slots) (Q := Q) (ls := ls) (rest := rest) (D := bd_D K) hx hb hK hw.1 q0 1 hq rfl (vp_in_nI (n := r) (by omega) (by decide)) hd
  rw [nI_clamp (by omega)] at h9
  exact h9 kk
theorem md_st3 (C : bd_C p s m args c cc nL Ts own K) (hw : bd_W K E z A H0 H locs) (hm : md_at K E mo th P F G S R9) {r x : Nat} (hd : decode cc pc = .ok (.lastore, 1)) (hr : r < 70)
    (kk : ∀ (E1 : Nat → va_E) (H1 : Heap) (locs1 : List Loc), md_at K E1 mo th P F G (va_up S r x) R9 → bd_W K E1 z A H0 H1 locs1 → W p l e R s m args below meth c H1 locs1 cells slots Q (F0 m (pc + 1) ls rest)) : W p l e R s m args below meth c H locs cells slots Q (F0 m pc ls (.long (lN x) :: .int (nI r) :: .ref (mo 3) :: rest)) := by
  obtain ⟨hx, hb, -, hown, hts, hK, hy, hNs⟩ := C
  obtain ⟨m1, m2, m3, e0, e1, e2, e3, e4⟩ := hm
  have n : ∀ i, i < 5 → i ≠ 3 → mo i ≠ mo 3 := fun i h1 h2 h => h2 (m2 i 3 h1 (by decide) h)
  obtain ⟨q0, hq0⟩ := va_pl_get (X := []) (f := bd_e K E z) (m1 3 (by decide)).1
  have hq := hq0
  rw [bd_e0 (m1 3 (by decide)).2, e3] at hq
  have h9 := va_last (m := m) (args := args) (l := l) (e := e) (R := R) (below := below) (meth := meth) (cells := cells) (slots := slots) (Q := Q) (ls := ls) (rest := rest) (x := lN x) (D := bd_D K) hx hb hK hw.1 hw.2.1 hw.2.2 q0 1 hq rfl (vp_in_nI (n := r) (by omega) (by decide)) hd
  rw [nI_clamp (by omega), bd_upd] at h9
  exact h9 (fun H1 locs1 h1 h2 h3 => kk _ H1 locs1 ⟨m1, m2, m3, by rw [va_up_ne _ _ (n 0 (by decide) (by decide))]; exact e0, by rw [va_up_ne _ _ (n 1 (by decide) (by decide))]; exact e1, by rw [va_up_ne _ _ (n 2 (by decide) (by decide))]; exact e2, va_up_self _ _ _, by rw [va_up_ne _ _ (n 4 (by decide) (by decide))]; exact e4⟩ (bd_set hw.2.1 (m1 3 (by decide)).1 hq0 (bd_u0 (m1 3 (by decide)).2 _) h1 h2 h3))
theorem md_ld4 (C : bd_C p s m args c cc nL Ts own K) (hw : bd_W K E z A H0 H locs) (hm : md_at K E mo th P F G S R9) {r : Nat} (hd : decode cc pc = .ok (.iaload, 1)) (hr : r < 36)
    (kk : W p l e R s m args below meth c H locs cells slots Q (F0 m (pc + 1) ls (.int (nI (R9 r)) :: rest))) : W p l e R s m args below meth c H locs cells slots Q (F0 m pc ls (.int (nI r) :: .ref (mo 4) :: rest)) := by
  obtain ⟨hx, hb, -, hown, hts, hK, hy, hNs⟩ := C
  obtain ⟨m1, m2, m3, e0, e1, e2, e3, e4⟩ := hm
  obtain ⟨q0, hq⟩ := va_pl_get (X := []) (f := bd_e K E z) (m1 4 (by decide)).1
  rw [bd_e0 (m1 4 (by decide)).2, e4] at hq
  have h9 := va_iald (m := m) (args := args) (l := l) (e := e) (R := R) (below := below) (meth := meth) (locs := locs) (cells := cells) (slots := slots) (Q := Q) (ls := ls) (rest := rest) (D := bd_D K) hx hb hK hw.1 q0 0 hq rfl (vp_in_nI (n := r) (by omega) (by decide)) hd
  rw [nI_clamp (by omega)] at h9
  exact h9 kk
theorem md_st4 (C : bd_C p s m args c cc nL Ts own K) (hw : bd_W K E z A H0 H locs) (hm : md_at K E mo th P F G S R9) {r x : Nat} (hd : decode cc pc = .ok (.iastore, 1)) (hr : r < 36)
    (kk : ∀ (E1 : Nat → va_E) (H1 : Heap) (locs1 : List Loc), md_at K E1 mo th P F G S (va_up R9 r x) → bd_W K E1 z A H0 H1 locs1 → W p l e R s m args below meth c H1 locs1 cells slots Q (F0 m (pc + 1) ls rest)) : W p l e R s m args below meth c H locs cells slots Q (F0 m pc ls (.int (nI x) :: .int (nI r) :: .ref (mo 4) :: rest)) := by
  obtain ⟨hx, hb, -, hown, hts, hK, hy, hNs⟩ := C
  obtain ⟨m1, m2, m3, e0, e1, e2, e3, e4⟩ := hm
  have n : ∀ i, i < 5 → i ≠ 4 → mo i ≠ mo 4 := fun i h1 h2 h => h2 (m2 i 4 h1 (by decide) h)
  obtain ⟨q0, hq0⟩ := va_pl_get (X := []) (f := bd_e K E z) (m1 4 (by decide)).1
  have hq := hq0
  rw [bd_e0 (m1 4 (by decide)).2, e4] at hq
  have h9 := va_iast (m := m) (args := args) (l := l) (e := e) (R := R) (below := below) (meth := meth) (cells := cells) (slots := slots) (Q := Q) (ls := ls) (rest := rest) (x := nI x) (D := bd_D K) hx hb hK hw.1 hw.2.1 hw.2.2 q0 0 hq rfl (vp_in_nI (n := r) (by omega) (by decide)) hd
  rw [nI_clamp (by omega), md_upR] at h9
  exact h9 (fun H1 locs1 h1 h2 h3 => kk _ H1 locs1 ⟨m1, m2, m3, by rw [va_up_ne _ _ (n 0 (by decide) (by decide))]; exact e0, by rw [va_up_ne _ _ (n 1 (by decide) (by decide))]; exact e1, by rw [va_up_ne _ _ (n 2 (by decide) (by decide))]; exact e2, by rw [va_up_ne _ _ (n 3 (by decide) (by decide))]; exact e3, va_up_self _ _ _⟩ (bd_set hw.2.1 (m1 4 (by decide)).1 hq0 (bd_u0 (m1 4 (by decide)).2 _) h1 h2 h3))
theorem md_recv (C : bd_C p s m args c cc nL Ts own K) (hw : bd_W K E z A H0 H locs) (hm : md_at K E mo th P F G S R9) : ∃ cell : Cell, H[mo 0]? = some cell ∧ cell.vm.isStatics = false ∧ s.vm.findClass RX5 = some cell.cls := by
  obtain ⟨hx, hb, -, hown, hts, hK, hy, hNs⟩ := C
  obtain ⟨q0, hq⟩ := va_pl_get (X := []) (f := bd_e K E z) (hm.1 0 (by decide)).1
  rw [bd_e0 (hm.1 0 (by decide)).2, hm.2.2.2.1] at hq
  exact va_recv hK hw.1 (ci := 5) (q0 := q0) rfl hq
end MDR
section MDU
variable {p : Program} {l : Launch} {e : Env} {R : Room} {s : State} {m : MethodId} {args : Array Value} {below : List Frame} {meth : Method} {c : Code} {H : Heap} {locs : List Loc} {cells slots : Nat} {Q : State → Prop}
variable {cc : ByteArray} {pc nL : Nat} {ls : Array Slot} {rest : List Value} {K : Cxt} {E : Nat → va_E} {z : Nat → Wh} {A : Nat → Prop} {Ts : List Cond} {H0 : Heap} {own : String}
variable {mo : Nat → Nat} {th : Int32} {P : Nat} {F : Nat → Nat → Nat} {G : Nat → Int32} {S R9 : Nat → Nat}
theorem va_up2 {α : Type} (F : Nat → α) (r : Nat) (f g : α) : va_up (va_up F r f) r g = va_up F r g := by
  funext j
  by_cases h : j = r
  · subst h
    rw [va_up_self, va_up_self]
  · rw [va_up_ne _ _ h, va_up_ne _ _ h, va_up_ne _ _ h]
theorem va_upi {α : Type} (F : Nat → α) (r : Nat) : va_up F r (F r) = F := by
  funext j
  by_cases h : j = r
  · subst h
    rw [va_up_self]
  · rw [va_up_ne _ _ h]
theorem md_st1u (C : bd_C p s m args c cc nL Ts own K) (hw : bd_W K E z A H0 H locs) {r k x : Nat} {f1 : Nat → Nat} (hm : md_at K E mo th P (va_up F r f1) G S R9) (hd : decode cc pc = .ok (.iastore, 1)) (hr : r < 60) (hk : k < 34)
    (kk : ∀ (E1 : Nat → va_E) (H1 : Heap) (locs1 : List Loc), md_at K E1 mo th P (va_up F r (va_up f1 k x)) G S R9 → bd_W K E1 z A H0 H1 locs1 → W p l e R s m args below meth c H1 locs1 cells slots Q (F0 m (pc + 1) ls rest)) : W p l e R s m args below meth c H locs cells slots Q (F0 m pc ls (.int (nI x) :: .int (nI (34 * r + k)) :: .ref (mo 1) :: rest)) :=
  md_st1 C hw hm hd hr hk (fun E1 H1 locs1 h1 h2 => kk E1 H1 locs1 (by rw [va_up2, va_up_self] at h1; exact h1) h2)
theorem md_st2u (C : bd_C p s m args c cc nL Ts own K) (hw : bd_W K E z A H0 H locs) {r : Nat} {x g1 : Int32} (hm : md_at K E mo th P F (va_up G r g1) S R9) (hd : decode cc pc = .ok (.iastore, 1)) (hr : r < 60)
    (kk : ∀ (E1 : Nat → va_E) (H1 : Heap) (locs1 : List Loc), md_at K E1 mo th P F (va_up G r x) S R9 → bd_W K E1 z A H0 H1 locs1 → W p l e R s m args below meth c H1 locs1 cells slots Q (F0 m (pc + 1) ls rest)) : W p l e R s m args below meth c H locs cells slots Q (F0 m pc ls (.int x :: .int (nI r) :: .ref (mo 2) :: rest)) :=
  md_st2 C hw hm hd hr (fun E1 H1 locs1 h1 h2 => kk E1 H1 locs1 (by rw [va_up2] at h1; exact h1) h2)
end MDU
/-- what a register shows while another (or the same) is being written -/
theorem rd_k {F : Nat → Nat → Nat} {r a k : Nat} {f1 : Nat → Nat} (h : a = r → f1 k = F a k) : va_up F r f1 a k = F a k := by
  by_cases q : a = r
  · rw [← h q, q, va_up_self]
  · rw [va_up_ne _ _ q]
