/-! THE DIVISION'S WORLD: the object, its row of what is left, its row of the divisor -/
def dv_at (K : Cxt) (E : Nat → va_E) (dv rs bs ln fl : Nat) (F G : Nat → Nat) : Prop :=
  (dv ∈ bd_L K ∧ rs ∈ bd_L K ∧ bs ∈ bd_L K) ∧ (bd_o K dv ∧ bd_o K rs ∧ bd_o K bs) ∧ (dv ≠ rs ∧ dv ≠ bs ∧ rs ≠ bs) ∧ E dv = .inr (1, [.ref rs, .ref bs, .int (nI ln), .int (nI fl)]) ∧ E rs = .inl (bd_J K, 25, .inr (.inl (fun j => lN (F j)))) ∧ E bs = .inl (bd_J K, 24, .inr (.inl (fun j => lN (G j))))
def dv_fr (dv rs bs : Nat) (E E1 : Nat → va_E) : Prop := ∀ q, q ≠ dv → q ≠ rs → q ≠ bs → E1 q = E q
theorem dv_tr {dv rs bs : Nat} {E E1 E2 : Nat → va_E} (h2 : dv_fr dv rs bs E1 E2) (h1 : dv_fr dv rs bs E E1) : dv_fr dv rs bs E E2 := fun q a b c => (h2 q a b c).trans (h1 q a b c)
theorem dv_rf {dv rs bs : Nat} {E : Nat → va_E} : dv_fr dv rs bs E E := fun _ _ _ _ => rfl
section DVR
variable {p : Program} {l : Launch} {e : Env} {R : Room} {s : State} {m : MethodId} {args : Array Value} {below : List Frame} {meth : Method} {c : Code} {H : Heap} {locs : List Loc} {cells slots : Nat} {Q : State → Prop}
variable {cc : ByteArray} {pc nL : Nat} {ls : Array Slot} {rest : List Value} {K : Cxt} {E : Nat → va_E} {z : Nat → Wh} {A : Nat → Prop} {Ts : List Cond} {H0 : Heap} {own : String} {dv rs bs ln fl ix : Nat} {F G : Nat → Nat}
theorem dv_grs (C : bd_C p s m args c cc nL Ts own K) (hi : ∀ w ∈ wsX10, w ∈ Ts) (hw : bd_W K E z A H0 H locs) (hdv : dv_at K E dv rs bs ln fl F G) (hd : decode cc pc = .ok (.getfield ix, 3)) (hl : Cond.fieldLink own ix "BallDesk$Division" "rest" "[J" ∈ Ts)
    (kk : W p l e R s m args below meth c H locs cells slots Q (F0 m (pc + 3) ls (.ref rs :: rest))) : W p l e R s m args below meth c H locs cells slots Q (F0 m pc ls (.ref dv :: rest)) := by
  obtain ⟨hx, hb, -, hown, hts, hK, hy, hNs⟩ := C
  obtain ⟨⟨m1, m2, m3⟩, ⟨o1, o2, o3⟩, -, e1, e2, e3⟩ := hdv
  obtain ⟨q0, hq⟩ := va_pl_get (X := []) (f := bd_e K E z) m1
  rw [bd_e0 o1, e1] at hq
  exact va_get (D := bd_D K) (C := RX1) (T := TX1) (N := 4) (ci := 1) (v := .ref rs) hx hb hts hi hown hK hw.1 q0 hq rfl 0 (by decide) (hts _ hl) (fun _ h => h) rfl hd kk
theorem dv_gbs (C : bd_C p s m args c cc nL Ts own K) (hi : ∀ w ∈ wsX10, w ∈ Ts) (hw : bd_W K E z A H0 H locs) (hdv : dv_at K E dv rs bs ln fl F G) (hd : decode cc pc = .ok (.getfield ix, 3)) (hl : Cond.fieldLink own ix "BallDesk$Division" "by" "[J" ∈ Ts)
    (kk : W p l e R s m args below meth c H locs cells slots Q (F0 m (pc + 3) ls (.ref bs :: rest))) : W p l e R s m args below meth c H locs cells slots Q (F0 m pc ls (.ref dv :: rest)) := by
  obtain ⟨hx, hb, -, hown, hts, hK, hy, hNs⟩ := C
  obtain ⟨⟨m1, m2, m3⟩, ⟨o1, o2, o3⟩, -, e1, e2, e3⟩ := hdv
  obtain ⟨q0, hq⟩ := va_pl_get (X := []) (f := bd_e K E z) m1
  rw [bd_e0 o1, e1] at hq
  exact va_get (D := bd_D K) (C := RX1) (T := TX1) (N := 4) (ci := 1) (v := .ref bs) hx hb hts hi hown hK hw.1 q0 hq rfl 1 (by decide) (hts _ hl) (fun _ h => h) rfl hd kk
theorem dv_gln (C : bd_C p s m args c cc nL Ts own K) (hi : ∀ w ∈ wsX10, w ∈ Ts) (hw : bd_W K E z A H0 H locs) (hdv : dv_at K E dv rs bs ln fl F G) (hd : decode cc pc = .ok (.getfield ix, 3)) (hl : Cond.fieldLink own ix "BallDesk$Division" "length" "I" ∈ Ts)
    (kk : W p l e R s m args below meth c H locs cells slots Q (F0 m (pc + 3) ls (.int (nI ln) :: rest))) : W p l e R s m args below meth c H locs cells slots Q (F0 m pc ls (.ref dv :: rest)) := by
  obtain ⟨hx, hb, -, hown, hts, hK, hy, hNs⟩ := C
  obtain ⟨⟨m1, m2, m3⟩, ⟨o1, o2, o3⟩, -, e1, e2, e3⟩ := hdv
  obtain ⟨q0, hq⟩ := va_pl_get (X := []) (f := bd_e K E z) m1
  rw [bd_e0 o1, e1] at hq
  exact va_get (D := bd_D K) (C := RX1) (T := TX1) (N := 4) (ci := 1) (v := .int (nI ln)) hx hb hts hi hown hK hw.1 q0 hq rfl 2 (by decide) (hts _ hl) (fun _ h => h) rfl hd kk
theorem dv_gfl (C : bd_C p s m args c cc nL Ts own K) (hi : ∀ w ∈ wsX10, w ∈ Ts) (hw : bd_W K E z A H0 H locs) (hdv : dv_at K E dv rs bs ln fl F G) (hd : decode cc pc = .ok (.getfield ix, 3)) (hl : Cond.fieldLink own ix "BallDesk$Division" "filled" "I" ∈ Ts)
    (kk : W p l e R s m args below meth c H locs cells slots Q (F0 m (pc + 3) ls (.int (nI fl) :: rest))) : W p l e R s m args below meth c H locs cells slots Q (F0 m pc ls (.ref dv :: rest)) := by
  obtain ⟨hx, hb, -, hown, hts, hK, hy, hNs⟩ := C
  obtain ⟨⟨m1, m2, m3⟩, ⟨o1, o2, o3⟩, -, e1, e2, e3⟩ := hdv
  obtain ⟨q0, hq⟩ := va_pl_get (X := []) (f := bd_e K E z) m1
  rw [bd_e0 o1, e1] at hq
  exact va_get (D := bd_D K) (C := RX1) (T := TX1) (N := 4) (ci := 1) (v := .int (nI fl)) hx hb hts hi hown hK hw.1 q0 hq rfl 3 (by decide) (hts _ hl) (fun _ h => h) rfl hd kk
theorem dv_pln (C : bd_C p s m args c cc nL Ts own K) (hi : ∀ w ∈ wsX10, w ∈ Ts) (hw : bd_W K E z A H0 H locs) (hdv : dv_at K E dv rs bs ln fl F G) (hd : decode cc pc = .ok (.putfield ix, 3)) (hl : Cond.fieldLink own ix "BallDesk$Division" "length" "I" ∈ Ts) {v : Nat}
    (kk : ∀ (E1 : Nat → va_E) (H1 : Heap) (locs1 : List Loc), dv_at K E1 dv rs bs v fl F G → dv_fr dv rs bs E E1 → bd_W K E1 z A H0 H1 locs1 → W p l e R s m args below meth c H1 locs1 cells slots Q (F0 m (pc + 3) ls rest)) : W p l e R s m args below meth c H locs cells slots Q (F0 m pc ls (.int (nI v) :: .ref dv :: rest)) := by
  obtain ⟨hx, hb, -, hown, hts, hK, hy, hNs⟩ := C
  obtain ⟨⟨m1, m2, m3⟩, ⟨o1, o2, o3⟩, ⟨n1, n2, n3⟩, e1, e2, e3⟩ := hdv
  obtain ⟨q0, hq0⟩ := va_pl_get (X := []) (f := bd_e K E z) m1
  have hq := hq0
  rw [bd_e0 o1, e1] at hq
  exact va_put (D := bd_D K) (C := RX1) (T := TX1) (N := 4) (ci := 1) (ty := .int) (v := .int (nI v)) hx hb hts hi tyX1 tyX1_ok nmX1 hown hK hw.1 hw.2.1 hw.2.2 q0 hq rfl 2 (by decide) (hts _ hl) (fun _ h => h) rfl (by decide +kernel) rfl rfl (Nat.le_of_ble_eq_true rfl) hd (fun H1 locs1 h1 h2 h3 => kk (va_up E dv (.inr (1, [.ref rs, .ref bs, .int (nI v), .int (nI fl)]))) H1 locs1 ⟨⟨m1, m2, m3⟩, ⟨o1, o2, o3⟩, ⟨n1, n2, n3⟩, va_up_self _ _ _, by rw [va_up_ne _ _ n1.symm]; exact e2, by rw [va_up_ne _ _ n2.symm]; exact e3⟩ (fun q a _ _ => va_up_ne _ _ a) (bd_set hw.2.1 m1 hq0 (bd_u0 o1 _) h1 h2 h3))
theorem dv_pfl (C : bd_C p s m args c cc nL Ts own K) (hi : ∀ w ∈ wsX10, w ∈ Ts) (hw : bd_W K E z A H0 H locs) (hdv : dv_at K E dv rs bs ln fl F G) (hd : decode cc pc = .ok (.putfield ix, 3)) (hl : Cond.fieldLink own ix "BallDesk$Division" "filled" "I" ∈ Ts) {v : Nat}
    (kk : ∀ (E1 : Nat → va_E) (H1 : Heap) (locs1 : List Loc), dv_at K E1 dv rs bs ln v F G → dv_fr dv rs bs E E1 → bd_W K E1 z A H0 H1 locs1 → W p l e R s m args below meth c H1 locs1 cells slots Q (F0 m (pc + 3) ls rest)) : W p l e R s m args below meth c H locs cells slots Q (F0 m pc ls (.int (nI v) :: .ref dv :: rest)) := by
  obtain ⟨hx, hb, -, hown, hts, hK, hy, hNs⟩ := C
  obtain ⟨⟨m1, m2, m3⟩, ⟨o1, o2, o3⟩, ⟨n1, n2, n3⟩, e1, e2, e3⟩ := hdv
  obtain ⟨q0, hq0⟩ := va_pl_get (X := []) (f := bd_e K E z) m1
  have hq := hq0
  rw [bd_e0 o1, e1] at hq
  exact va_put (D := bd_D K) (C := RX1) (T := TX1) (N := 4) (ci := 1) (ty := .int) (v := .int (nI v)) hx hb hts hi tyX1 tyX1_ok nmX1 hown hK hw.1 hw.2.1 hw.2.2 q0 hq rfl 3 (by decide) (hts _ hl) (fun _ h => h) rfl (by decide +kernel) rfl rfl (Nat.le_of_ble_eq_true rfl) hd (fun H1 locs1 h1 h2 h3 => kk (va_up E dv (.inr (1, [.ref rs, .ref bs, .int (nI ln), .int (nI v)]))) H1 locs1 ⟨⟨m1, m2, m3⟩, ⟨o1, o2, o3⟩, ⟨n1, n2, n3⟩, va_up_self _ _ _, by rw [va_up_ne _ _ n1.symm]; exact e2, by rw [va_up_ne _ _ n2.symm]; exact e3⟩ (fun q a _ _ => va_up_ne _ _ a) (bd_set hw.2.1 m1 hq0 (bd_u0 o1 _) h1 h2 h3))
theorem dv_ldR (C : bd_C p s m args c cc nL Ts own K) (hw : bd_W K E z A H0 H locs) (hdv : dv_at K E dv rs bs ln fl F G) {i : Nat} (hd : decode cc pc = .ok (.laload, 1)) (hin : i < 25)
    (kk : W p l e R s m args below meth c H locs cells slots Q (F0 m (pc + 1) ls (.long (lN (F i)) :: rest))) : W p l e R s m args below meth c H locs cells slots Q (F0 m pc ls (.int (nI i) :: .ref rs :: rest)) := by
  obtain ⟨hx, hb, -, hown, hts, hK, hy, hNs⟩ := C
  obtain ⟨⟨m1, m2, m3⟩, ⟨o1, o2, o3⟩, ⟨n1, n2, n3⟩, e1, e2, e3⟩ := hdv
  obtain ⟨q0, hq⟩ := va_pl_get (X := []) (f := bd_e K E z) m2
  rw [bd_e0 o2, e2] at hq
  have h9 := va_lald (m := m) (args := args) (l := l) (e := e) (R := R) (below := below) (meth := meth) (locs := locs) (cells := cells) (slots := slots) (Q := Q) (ls := ls) (rest := rest) (D := bd_D K) hx hb hK hw.1 q0 1 hq rfl (vp_in_nI (n := i) hin (by decide)) hd
  rw [nI_clamp (by omega)] at h9
  exact h9 kk
theorem dv_stR (C : bd_C p s m args c cc nL Ts own K) (hw : bd_W K E z A H0 H locs) (hdv : dv_at K E dv rs bs ln fl F G) {i x : Nat} (hd : decode cc pc = .ok (.lastore, 1)) (hin : i < 25)
    (kk : ∀ (E1 : Nat → va_E) (H1 : Heap) (locs1 : List Loc), dv_at K E1 dv rs bs ln fl (va_up F i x) G → dv_fr dv rs bs E E1 → bd_W K E1 z A H0 H1 locs1 → W p l e R s m args below meth c H1 locs1 cells slots Q (F0 m (pc + 1) ls rest)) : W p l e R s m args below meth c H locs cells slots Q (F0 m pc ls (.long (lN x) :: .int (nI i) :: .ref rs :: rest)) := by
  obtain ⟨hx, hb, -, hown, hts, hK, hy, hNs⟩ := C
  obtain ⟨⟨m1, m2, m3⟩, ⟨o1, o2, o3⟩, ⟨n1, n2, n3⟩, e1, e2, e3⟩ := hdv
  obtain ⟨q0, hq0⟩ := va_pl_get (X := []) (f := bd_e K E z) m2
  have hq := hq0
  rw [bd_e0 o2, e2] at hq
  have h9 := va_last (m := m) (args := args) (l := l) (e := e) (R := R) (below := below) (meth := meth) (cells := cells) (slots := slots) (Q := Q) (ls := ls) (rest := rest) (x := lN x) (D := bd_D K) hx hb hK hw.1 hw.2.1 hw.2.2 q0 1 hq rfl (vp_in_nI (n := i) hin (by decide)) hd
  rw [nI_clamp (by omega), bd_upd] at h9
  exact h9 (fun H1 locs1 h1 h2 h3 => kk _ H1 locs1 ⟨⟨m1, m2, m3⟩, ⟨o1, o2, o3⟩, ⟨n1, n2, n3⟩, by rw [va_up_ne _ _ n1]; exact e1, va_up_self _ _ _, by rw [va_up_ne _ _ n3.symm]; exact e3⟩ (fun q _ a _ => va_up_ne _ _ a) (bd_set hw.2.1 m2 hq0 (bd_u0 o2 _) h1 h2 h3))
theorem dv_ldB (C : bd_C p s m args c cc nL Ts own K) (hw : bd_W K E z A H0 H locs) (hdv : dv_at K E dv rs bs ln fl F G) {i : Nat} (hd : decode cc pc = .ok (.laload, 1)) (hin : i < 24)
    (kk : W p l e R s m args below meth c H locs cells slots Q (F0 m (pc + 1) ls (.long (lN (G i)) :: rest))) : W p l e R s m args below meth c H locs cells slots Q (F0 m pc ls (.int (nI i) :: .ref bs :: rest)) := by
  obtain ⟨hx, hb, -, hown, hts, hK, hy, hNs⟩ := C
  obtain ⟨⟨m1, m2, m3⟩, ⟨o1, o2, o3⟩, ⟨n1, n2, n3⟩, e1, e2, e3⟩ := hdv
  obtain ⟨q0, hq⟩ := va_pl_get (X := []) (f := bd_e K E z) m3
  rw [bd_e0 o3, e3] at hq
  have h9 := va_lald (m := m) (args := args) (l := l) (e := e) (R := R) (below := below) (meth := meth) (locs := locs) (cells := cells) (slots := slots) (Q := Q) (ls := ls) (rest := rest) (D := bd_D K) hx hb hK hw.1 q0 1 hq rfl (vp_in_nI (n := i) hin (by decide)) hd
  rw [nI_clamp (by omega)] at h9
  exact h9 kk
theorem dv_stB (C : bd_C p s m args c cc nL Ts own K) (hw : bd_W K E z A H0 H locs) (hdv : dv_at K E dv rs bs ln fl F G) {i x : Nat} (hd : decode cc pc = .ok (.lastore, 1)) (hin : i < 24)
    (kk : ∀ (E1 : Nat → va_E) (H1 : Heap) (locs1 : List Loc), dv_at K E1 dv rs bs ln fl F (va_up G i x) → dv_fr dv rs bs E E1 → bd_W K E1 z A H0 H1 locs1 → W p l e R s m args below meth c H1 locs1 cells slots Q (F0 m (pc + 1) ls rest)) : W p l e R s m args below meth c H locs cells slots Q (F0 m pc ls (.long (lN x) :: .int (nI i) :: .ref bs :: rest)) := by
  obtain ⟨hx, hb, -, hown, hts, hK, hy, hNs⟩ := C
  obtain ⟨⟨m1, m2, m3⟩, ⟨o1, o2, o3⟩, ⟨n1, n2, n3⟩, e1, e2, e3⟩ := hdv
  obtain ⟨q0, hq0⟩ := va_pl_get (X := []) (f := bd_e K E z) m3
  have hq := hq0
  rw [bd_e0 o3, e3] at hq
  have h9 := va_last (m := m) (args := args) (l := l) (e := e) (R := R) (below := below) (meth := meth) (cells := cells) (slots := slots) (Q := Q) (ls := ls) (rest := rest) (x := lN x) (D := bd_D K) hx hb hK hw.1 hw.2.1 hw.2.2 q0 1 hq rfl (vp_in_nI (n := i) hin (by decide)) hd
  rw [nI_clamp (by omega), bd_upd] at h9
  exact h9 (fun H1 locs1 h1 h2 h3 => kk _ H1 locs1 ⟨⟨m1, m2, m3⟩, ⟨o1, o2, o3⟩, ⟨n1, n2, n3⟩, by rw [va_up_ne _ _ n2]; exact e1, by rw [va_up_ne _ _ n3]; exact e2, va_up_self _ _ _⟩ (fun q _ _ a => va_up_ne _ _ a) (bd_set hw.2.1 m3 hq0 (bd_u0 o3 _) h1 h2 h3))
theorem dv_recv (C : bd_C p s m args c cc nL Ts own K) (hw : bd_W K E z A H0 H locs) (hdv : dv_at K E dv rs bs ln fl F G) : ∃ cell : Cell, H[dv]? = some cell ∧ cell.vm.isStatics = false ∧ s.vm.findClass RX1 = some cell.cls := by
  obtain ⟨hx, hb, -, hown, hts, hK, hy, hNs⟩ := C
  obtain ⟨⟨m1, m2, m3⟩, ⟨o1, o2, o3⟩, -, e1, e2, e3⟩ := hdv
  obtain ⟨q0, hq⟩ := va_pl_get (X := []) (f := bd_e K E z) m1
  rw [bd_e0 o1, e1] at hq
  exact va_recv hK hw.1 (ci := 1) (q0 := q0) rfl hq
end DVR
