/-! THE DESK'S WORLD: its cells a 0 .. a 21 (the desk, the row of places, the ball made, the places, the fine numbers, two divisions), its numbers B 0 .. B 41 -/
def bk_A (B : Nat → Nat) : Nat → Nat := fun i => B (31 + i)
def bk_l (P : Nat) (a B : Nat → Nat) : List Value := [.int (nI P), .ref (B 0), .ref (a 1), .ref (a 2), .ref (B 1), .ref (B 2), .ref (B 3), .ref (B 4), .ref (B 5), .ref (a 16), .ref (a 15)]
def bk_at (K : Cxt) (E : Nat → va_E) (P : Nat) (a B : Nat → Nat) : Prop :=
  (∀ i, i < 22 → a i ∈ bd_L K ∧ bd_o K (a i)) ∧ (∀ i j, i < 22 → j < 22 → a i = a j → i = j) ∧ (∀ i, i < 42 → B i ∈ bd_N K) ∧ (∀ i j, i < 42 → j < 42 → B i = B j → i = j) ∧ (16 ≤ P ∧ P ≤ 192) ∧ E (a 0) = .inr (4, bk_l P a B) ∧ E (a 1) = .inl (bd_O K, 12, .inr (.inr (.inr (.inr (fun k => some (a (3 + k))))))) ∧ E (a 2) = .inr (0, [.ref (B 6), .ref (B 7)]) ∧ (∀ k, k < 12 → E (a (3 + k)) = .inr (0, [.ref (B (8 + k)), .ref (B (20 + k))])) ∧ E (a 15) = .inr (2, fn_l (P + 64) (a 19) (bk_A B)) ∧ dv_ok K E (a 16) (a 17) (a 18) ∧ dv_ok K E (a 19) (a 20) (a 21)
section BKW
variable {K : Cxt} {E E1 : Nat → va_E} {P : Nat} {a B : Nat → Nat}
theorem bk_ne (h : bk_at K E P a B) {i j : Nat} (hi : i < 42) (hj : j < 42) (hij : i ≠ j) : B i ≠ B j := fun q => hij (h.2.2.2.1 i j hi hj q)
theorem bk_in (h : bk_at K E P a B) {i : Nat} (hi : i < 42) : B i ∈ bd_N K := h.2.2.1 i hi
theorem bk_P (h : bk_at K E P a B) : 16 ≤ P ∧ P ≤ 192 := h.2.2.2.2.1
theorem bk_an (h : bk_at K E P a B) {i j : Nat} (hi : i < 22) (hj : j < 22) (hij : i ≠ j) : a i ≠ a j := fun q => hij (h.2.1 i j hi hj q)
theorem bk_dv (h : bk_at K E P a B) : dv_ok K E (a 16) (a 17) (a 18) := h.2.2.2.2.2.2.2.2.2.2.1
theorem bk_fn (h : bk_at K E P a B) : fn_at K E (a 15) (P + 64) (a 19) (a 20) (a 21) (bk_A B) := by
  obtain ⟨h1, h2, h3, h4, h5, h6, h7, h8, h9, h10, h11, h12⟩ := h
  refine ⟨(h1 15 (by decide)).1, (h1 15 (by decide)).2, ⟨fun q => absurd (h2 15 19 (by decide) (by decide) q) (by decide), fun q => absurd (h2 15 20 (by decide) (by decide) q) (by decide), fun q => absurd (h2 15 21 (by decide) (by decide) q) (by decide)⟩, h10, fun i hi => h3 (31 + i) (by omega), fun i j hi hj q => ?_, by omega, h12⟩
  have := h4 (31 + i) (31 + j) (by omega) (by omega) q
  omega
theorem bk_xA (h : bk_at K E P a B) {j : Nat} (hj : j < 32) : ∀ i, 1 ≤ i ∧ i ≤ 10 → B j ≠ bk_A B i := fun i hi => bk_ne h (by omega) (by omega) (by omega)
/-- a division moves nothing else -/
theorem dv_keep {dv rs bs d1 r1 b1 : Nat} (hf : dv_fr dv rs bs E E1) (h : dv_ok K E d1 r1 b1) (n1 : d1 ≠ dv ∧ d1 ≠ rs ∧ d1 ≠ bs) (n2 : r1 ≠ dv ∧ r1 ≠ rs ∧ r1 ≠ bs) (n3 : b1 ≠ dv ∧ b1 ≠ rs ∧ b1 ≠ bs) : dv_ok K E1 d1 r1 b1 := by
  obtain ⟨ln, fl, F, G, ⟨m1, m2, m3, e1, e2, e3⟩, h1, h2⟩ := h
  exact ⟨ln, fl, F, G, ⟨m1, m2, m3, by rw [hf _ n1.1 n1.2.1 n1.2.2]; exact e1, by rw [hf _ n2.1 n2.2.1 n2.2.2]; exact e2, by rw [hf _ n3.1 n3.2.1 n3.2.2]; exact e3⟩, h1, h2⟩
theorem bk_mv1 (h : bk_at K E P a B) (hd : dv_ok K E1 (a 16) (a 17) (a 18)) (hf : dv_fr (a 16) (a 17) (a 18) E E1) : bk_at K E1 P a B := by
  obtain ⟨h1, h2, h3, h4, h5, h6, h7, h8, h9, h10, h11, h12⟩ := h
  have n : ∀ i j, i < 22 → j < 22 → i ≠ j → a i ≠ a j := fun i j a1 b1 c1 q => c1 (h2 i j a1 b1 q)
  have k : ∀ i, i < 22 → i ≠ 16 → i ≠ 17 → i ≠ 18 → E1 (a i) = E (a i) := fun i h0 a1 b1 c1 => hf _ (n i 16 h0 (by decide) a1) (n i 17 h0 (by decide) b1) (n i 18 h0 (by decide) c1)
  refine ⟨h1, h2, h3, h4, h5, by rw [k 0 (by decide) (by decide) (by decide) (by decide)]; exact h6, by rw [k 1 (by decide) (by decide) (by decide) (by decide)]; exact h7, by rw [k 2 (by decide) (by decide) (by decide) (by decide)]; exact h8, fun i hi => by rw [k (3 + i) (by omega) (by omega) (by omega) (by omega)]; exact h9 i hi, by rw [k 15 (by decide) (by decide) (by decide) (by decide)]; exact h10, hd, ?_⟩
  exact dv_keep hf h12 ⟨n 19 16 (by decide) (by decide) (by decide), n 19 17 (by decide) (by decide) (by decide), n 19 18 (by decide) (by decide) (by decide)⟩ ⟨n 20 16 (by decide) (by decide) (by decide), n 20 17 (by decide) (by decide) (by decide), n 20 18 (by decide) (by decide) (by decide)⟩ ⟨n 21 16 (by decide) (by decide) (by decide), n 21 17 (by decide) (by decide) (by decide), n 21 18 (by decide) (by decide) (by decide)⟩
theorem bk_mv2 (h : bk_at K E P a B) (hd : fn_at K E1 (a 15) (P + 64) (a 19) (a 20) (a 21) (bk_A B)) (hf : dv_fr (a 19) (a 20) (a 21) E E1) : bk_at K E1 P a B := by
  obtain ⟨h1, h2, h3, h4, h5, h6, h7, h8, h9, h10, h11, h12⟩ := h
  have n : ∀ i j, i < 22 → j < 22 → i ≠ j → a i ≠ a j := fun i j a1 b1 c1 q => c1 (h2 i j a1 b1 q)
  have k : ∀ i, i < 22 → i ≠ 19 → i ≠ 20 → i ≠ 21 → E1 (a i) = E (a i) := fun i h0 a1 b1 c1 => hf _ (n i 19 h0 (by decide) a1) (n i 20 h0 (by decide) b1) (n i 21 h0 (by decide) c1)
  refine ⟨h1, h2, h3, h4, h5, by rw [k 0 (by decide) (by decide) (by decide) (by decide)]; exact h6, by rw [k 1 (by decide) (by decide) (by decide) (by decide)]; exact h7, by rw [k 2 (by decide) (by decide) (by decide) (by decide)]; exact h8, fun i hi => by rw [k (3 + i) (by omega) (by omega) (by omega) (by omega)]; exact h9 i hi, by rw [k 15 (by decide) (by decide) (by decide) (by decide)]; exact h10, ?_, fn_dv hd⟩
  exact dv_keep hf h11 ⟨n 16 19 (by decide) (by decide) (by decide), n 16 20 (by decide) (by decide) (by decide), n 16 21 (by decide) (by decide) (by decide)⟩ ⟨n 17 19 (by decide) (by decide) (by decide), n 17 20 (by decide) (by decide) (by decide), n 17 21 (by decide) (by decide) (by decide)⟩ ⟨n 18 19 (by decide) (by decide) (by decide), n 18 20 (by decide) (by decide) (by decide), n 18 21 (by decide) (by decide) (by decide)⟩
/-- a ball -/
def bl_at (K : Cxt) (E : Nat → va_E) (q x y : Nat) : Prop := q ∈ bd_L K ∧ bd_o K q ∧ E q = .inr (0, [.ref x, .ref y])
theorem bk_made (h : bk_at K E P a B) : bl_at K E (a 2) (B 6) (B 7) := ⟨(h.1 2 (by decide)).1, (h.1 2 (by decide)).2, h.2.2.2.2.2.2.2.1⟩
theorem bk_pl (h : bk_at K E P a B) {k : Nat} (hk : k < 12) : bl_at K E (a (3 + k)) (B (8 + k)) (B (20 + k)) := ⟨(h.1 (3 + k) (by omega)).1, (h.1 (3 + k) (by omega)).2, h.2.2.2.2.2.2.2.2.1 k hk⟩
end BKW
section BKR
variable {p : Program} {l : Launch} {e : Env} {R : Room} {s : State} {m : MethodId} {args : Array Value} {below : List Frame} {meth : Method} {c : Code} {H : Heap} {locs : List Loc} {cells slots : Nat} {Q0 : State → Prop}
variable {cc : ByteArray} {pc nL : Nat} {ls : Array Slot} {rest : List Value} {K : Cxt} {E : Nat → va_E} {z : Nat → Wh} {Ar : Nat → Prop} {Ts : List Cond} {H0 : Heap} {own : String} {P ix : Nat} {a B : Nat → Nat}
theorem bk_g (C : bd_C p s m args c cc nL Ts own K) (hi : ∀ w ∈ wsX40, w ∈ Ts) (hw : bd_W K E z Ar H0 H locs) (hbk : bk_at K E P a B) (k : Nat) (hk : k < 11) {v : Value} (hv : (bk_l P a B)[k]? = some v) (hd : decode cc pc = .ok (.getfield ix, 3)) (hl : Cond.fieldLink own ix "BallDesk" (TX4 k).2.1 (TX4 k).2.2.1 ∈ Ts)
    (kk : W p l e R s m args below meth c H locs cells slots Q0 (F0 m (pc + 3) ls (v :: rest))) : W p l e R s m args below meth c H locs cells slots Q0 (F0 m pc ls (.ref (a 0) :: rest)) := by
  obtain ⟨hx, hb, -, hown, hts, hK, hy, hNs⟩ := C
  obtain ⟨q0, hq⟩ := va_pl_get (X := []) (f := bd_e K E z) (hbk.1 0 (by decide)).1
  rw [bd_e0 (hbk.1 0 (by decide)).2, hbk.2.2.2.2.2.1] at hq
  have hT : (TX4 k).1 = "BallDesk" := by
    rcases (show k = 0 ∨ k = 1 ∨ k = 2 ∨ k = 3 ∨ k = 4 ∨ k = 5 ∨ k = 6 ∨ k = 7 ∨ k = 8 ∨ k = 9 ∨ k = 10 by omega) with rfl | rfl | rfl | rfl | rfl | rfl | rfl | rfl | rfl | rfl | rfl <;> rfl
  exact va_get (D := bd_D K) (C := RX4) (T := TX4) (N := 11) (ci := 4) (v := v) hx hb hts hi hown hK hw.1 q0 hq rfl k hk (hts _ hl) (fun _ h => by rw [hT] at h; exact h) hv hd kk
theorem bl_gm {q x y : Nat} (C : bd_C p s m args c cc nL Ts own K) (hi : ∀ w ∈ wsX00, w ∈ Ts) (hw : bd_W K E z Ar H0 H locs) (hbl : bl_at K E q x y) (hd : decode cc pc = .ok (.getfield ix, 3)) (hl : Cond.fieldLink own ix "BallDesk$Ball" "middle" "LBallDesk$Whole;" ∈ Ts)
    (kk : W p l e R s m args below meth c H locs cells slots Q0 (F0 m (pc + 3) ls (.ref x :: rest))) : W p l e R s m args below meth c H locs cells slots Q0 (F0 m pc ls (.ref q :: rest)) := by
  obtain ⟨hx, hb, -, hown, hts, hK, hy, hNs⟩ := C
  obtain ⟨q0, hq⟩ := va_pl_get (X := []) (f := bd_e K E z) hbl.1
  rw [bd_e0 hbl.2.1, hbl.2.2] at hq
  exact va_get (D := bd_D K) (C := RX0) (T := TX0) (N := 2) (ci := 0) (v := .ref x) hx hb hts hi hown hK hw.1 q0 hq rfl 0 (by decide) (hts _ hl) (fun _ h => h) rfl hd kk
theorem bl_gr {q x y : Nat} (C : bd_C p s m args c cc nL Ts own K) (hi : ∀ w ∈ wsX00, w ∈ Ts) (hw : bd_W K E z Ar H0 H locs) (hbl : bl_at K E q x y) (hd : decode cc pc = .ok (.getfield ix, 3)) (hl : Cond.fieldLink own ix "BallDesk$Ball" "radius" "LBallDesk$Whole;" ∈ Ts)
    (kk : W p l e R s m args below meth c H locs cells slots Q0 (F0 m (pc + 3) ls (.ref y :: rest))) : W p l e R s m args below meth c H locs cells slots Q0 (F0 m pc ls (.ref q :: rest)) := by
  obtain ⟨hx, hb, -, hown, hts, hK, hy, hNs⟩ := C
  obtain ⟨q0, hq⟩ := va_pl_get (X := []) (f := bd_e K E z) hbl.1
  rw [bd_e0 hbl.2.1, hbl.2.2] at hq
  exact va_get (D := bd_D K) (C := RX0) (T := TX0) (N := 2) (ci := 0) (v := .ref y) hx hb hts hi hown hK hw.1 q0 hq rfl 1 (by decide) (hts _ hl) (fun _ h => h) rfl hd kk
theorem bk_ald {i : Nat} (C : bd_C p s m args c cc nL Ts own K) (hw : bd_W K E z Ar H0 H locs) (hbk : bk_at K E P a B) (hin : i < 12) (hd : decode cc pc = .ok (.aaload, 1))
    (kk : W p l e R s m args below meth c H locs cells slots Q0 (F0 m (pc + 1) ls (.ref (a (3 + i)) :: rest))) : W p l e R s m args below meth c H locs cells slots Q0 (F0 m pc ls (.int (nI i) :: .ref (a 1) :: rest)) := by
  obtain ⟨hx, hb, -, hown, hts, hK, hy, hNs⟩ := C
  obtain ⟨q0, hq⟩ := va_pl_get (X := []) (f := bd_e K E z) (hbk.1 1 (by decide)).1
  rw [bd_e0 (hbk.1 1 (by decide)).2, hbk.2.2.2.2.2.2.1] at hq
  have h9 := va_aldq (m := m) (args := args) (l := l) (e := e) (R := R) (below := below) (meth := meth) (locs := locs) (cells := cells) (slots := slots) (Q := Q0) (ls := ls) (rest := rest) (D := bd_D K) hx hb hK hw.1 q0 2 hq rfl (vp_in_nI (n := i) hin (by decide)) hd
  rw [nI_clamp (by omega)] at h9
  exact h9 kk
theorem bk_recv (C : bd_C p s m args c cc nL Ts own K) (hw : bd_W K E z Ar H0 H locs) (hbk : bk_at K E P a B) : ∃ cell : Cell, H[a 0]? = some cell ∧ cell.vm.isStatics = false ∧ s.vm.findClass RX4 = some cell.cls := by
  obtain ⟨hx, hb, -, hown, hts, hK, hy, hNs⟩ := C
  obtain ⟨q0, hq⟩ := va_pl_get (X := []) (f := bd_e K E z) (hbk.1 0 (by decide)).1
  rw [bd_e0 (hbk.1 0 (by decide)).2, hbk.2.2.2.2.2.1] at hq
  exact va_recv hK hw.1 (ci := 4) (q0 := q0) rfl hq
theorem bl_recv {q x y : Nat} (C : bd_C p s m args c cc nL Ts own K) (hw : bd_W K E z Ar H0 H locs) (hbl : bl_at K E q x y) : ∃ cell : Cell, H[q]? = some cell ∧ cell.vm.isStatics = false ∧ s.vm.findClass RX0 = some cell.cls := by
  obtain ⟨hx, hb, -, hown, hts, hK, hy, hNs⟩ := C
  obtain ⟨q0, hq⟩ := va_pl_get (X := []) (f := bd_e K E z) hbl.1
  rw [bd_e0 hbl.2.1, hbl.2.2] at hq
  exact va_recv hK hw.1 (ci := 0) (q0 := q0) rfl hq
end BKR
