/-! POSITIONS: the cells of a world that grows, in the order of their making: cell i lies at ad i -/
def ix_L (ad : Nat → Nat) (n : Nat) : List Nat := (List.range n).map ad
theorem ix_in {ad : Nat → Nat} {n i : Nat} (h : i < n) : ad i ∈ ix_L ad n := List.mem_map.mpr ⟨i, List.mem_range.mpr h, rfl⟩
theorem ix_of {ad : Nat → Nat} {n q : Nat} (h : q ∈ ix_L ad n) : ∃ i, i < n ∧ ad i = q := by
  obtain ⟨i, hi, rfl⟩ := List.mem_map.mp h
  exact ⟨i, List.mem_range.mp hi, rfl⟩
theorem ix_s {ad : Nat → Nat} {n q : Nat} : ix_L ad n ++ [q] = ix_L (va_up ad n q) (n + 1) := by
  unfold ix_L
  rw [List.range_succ, List.map_append, List.map_cons, List.map_nil, va_up_self]
  congr 1
  apply List.map_congr_left
  intro i hi
  rw [va_up_ne _ _ (by have := List.mem_range.mp hi; omega)]
theorem ix_inj {A : Nat → Prop} {ad : Nat → Nat} {n : Nat} {f : Nat → va_E} (hD : va_D A (va_pl (ix_L ad n) f)) {i j : Nat} (hi : i < n) (hj : j < n) (h : ad i = ad j) : i = j := by
  have g : ∀ k, k < n → (va_pl (ix_L ad n) f)[k]? = some (ad k, f (ad k)) := fun k hk => by
    unfold va_pl ix_L
    rw [List.getElem?_map, List.getElem?_map, List.getElem?_range hk]
    rfl
  exact hD.1 i j _ _ (g i hi) (g j hj) h
/-- the same addresses below n -/
def ix_e (n : Nat) (ad ad1 : Nat → Nat) : Prop := ∀ i, i < n → ad1 i = ad i
theorem ix_er (n : Nat) (ad : Nat → Nat) : ix_e n ad ad := fun _ _ => rfl
abbrev np_R (T : np_T) (n : Nat) : va_E := .inl (T.2.1, n, .inr (.inl (fun _ => lN 0)))
abbrev np_w (r : Nat) : va_E := .inr (3, [.ref r, .int 0, .int 0])
/-- what a constructor leaves: position p is done, the others below n are as they were -/
def ix_q (n k p : Nat) (ad : Nat → Nat) (f : Nat → va_E) (X : (Nat → Nat) → (Nat → va_E) → Prop) (u : np_U) : Prop := ∃ ad1 : Nat → Nat, ix_e n ad ad1 ∧ u.1 = ix_L ad1 (n + k) ∧ (∀ i, i < n → i ≠ p → u.2 (ad i) = f (ad i)) ∧ X ad1 u.2
def ix_XW (T : np_T) (n p0 : Nat) (ad1 : Nat → Nat) (f1 : Nat → va_E) : Prop := f1 (ad1 p0) = np_w (ad1 n) ∧ f1 (ad1 n) = np_R T 24
def ix_XD (T : np_T) (n p0 : Nat) (ad1 : Nat → Nat) (f1 : Nat → va_E) : Prop := f1 (ad1 p0) = .inr (1, [.ref (ad1 n), .ref (ad1 (n + 1)), .int 0, .int 0]) ∧ f1 (ad1 n) = np_R T 25 ∧ f1 (ad1 (n + 1)) = np_R T 24
def ix_XB (T : np_T) (n p0 : Nat) (ad1 : Nat → Nat) (f1 : Nat → va_E) : Prop := f1 (ad1 p0) = .inr (0, [.ref (ad1 n), .ref (ad1 (n + 2))]) ∧ ix_XW T (n + 1) n ad1 f1 ∧ ix_XW T (n + 3) (n + 2) ad1 f1
section IXM
variable {p : Program} {l : Launch} {e : Env} {R : Room} {s : State} {m : MethodId} {args : Array Value} {below : List Frame} {meth : Method} {c : Code} {H : Heap} {locs : List Loc} {cells slots : Nat} {Q : State → Prop}
variable {cc : ByteArray} {pc nL sz : Nat} {ls : Array Slot} {rest : List Value} {D : va_G} {T : np_T} {L0 : List Nat} {f : Nat → va_E} {Ts : List Cond} {own : String} {n : Nat} {ad : Nat → Nat}
variable {C0 : String} {T0 : u_T} {N ci i7 i9 : Nat} {fs : List Value} {y : MethodName} {ws : List Cond} {rm : Room} {bytes : ByteArray} {k mc ms maxL : Nat} {host : String}
/-- new X(): the cells that come, by their positions -/
theorem ix_mk {X : Nat → Nat → (Nat → Nat) → (Nat → va_E) → Prop} (hM : ∀ (n : Nat) (ad : Nat → Nat) (f : Nat → va_E) (sz p0 : Nat), p0 < n → f (ad p0) = .inr (ci, fs) → Met l y ws rm (va_Pc [.ref (ad p0)] (np_P D T (ix_L ad n) f sz)) (va_Qv (ix_q n k p0 ad f (X n p0)) (np_B D T (ix_L ad n) sz) (np_A (ix_L ad n) sz)) mc ms (np_A (ix_L ad n) sz))
    (C : np_C p s m args meth c cc nL Ts own D T) (hi : ∀ w ∈ u_ws C0 T0 N, w ∈ Ts) (ty : Nat → FieldType) (hty : ∀ k, k < N → parseFieldDescriptor (T0 k).2.2.1 = some (ty k)) (hcl : Cond.classLink own i7 C0 ∈ Ts) (hinst : Cond.instantiable C0 N ∈ Ts) (hini : Cond.initialized C0 ∈ Ts) (hsz : s.heap.size = sz) (hw : np_W D (ix_L ad n) f (np_A L0 sz) s.heap H locs) (hc : vwCl[ci]? = some (C0, T0, N)) (hfs : ∀ j, j < N → defaultValue (ty j) = vp_V fs j)
    (cw : va_CN R s args own i9 y host bytes maxL none ws rm mc ms 0 ∧ y.name = "<init>" ∧ (Cond.instanceMethod y).before args s = true) (hls : ls.size = nL) (hr8 : (rest.map fun v => v.category).sum ≤ 7) (hcc : cells + 1 + mc ≤ R.cells ∧ slots + N + ms ≤ R.slots)
    (hd0 : decode cc pc = .ok (.new i7, 3)) (hd1 : decode cc (pc + 3) = .ok (.dup, 1)) (hd2 : decode cc (pc + 3 + 1) = .ok (.invokespecial i9, 3))
    (kk : ∀ (ad1 : Nat → Nat) (f1 : Nat → va_E) (H1 : Heap) (locs1 : List Loc), ix_e n ad ad1 → (∀ i, i < n → f1 (ad1 i) = f (ad i)) → X (n + 1) n ad1 f1 → np_W D (ix_L ad1 (n + 1 + k)) f1 (np_A L0 sz) s.heap H1 locs1 → W p l e R s m args below meth c H1 locs1 (cells + 1 + mc) (slots + N + ms) Q (F0 m (pc + 3 + 1 + 3) ls (.ref (ad1 n) :: rest))) : W p l e R s m args below meth c H locs cells slots Q (F0 m pc ls rest) := by
  have hx := C.1
  have hb := C.2.1
  refine np_new (C0 := C0) (T0 := T0) (N := N) (ci := ci) (fs := fs) C hi ty hty hcl hinst hini hsz hw hc hfs (by omega) (by omega) hd0 (fun q H1 hq hw1 => ?_)
  refine lv_dup hx hb hd1 rfl ?_
  rw [ix_s] at hw1
  have e0 : va_up ad n q n = q := va_up_self _ _ _
  have hM1 := hM (n + 1) (va_up ad n q) (va_up f q (.inr (ci, fs))) H1.size n (by omega) (by rw [e0, va_up_self])
  rw [e0] at hM1
  refine np_call (As := []) (rest := .ref q :: rest) C hM1 cw hsz hw1 hd2 rfl hls rfl (by simp only [List.map_cons, List.sum_cons]; show 1 + _ ≤ 8; omega) hcc (fun L1 f1 H2 locs2 hp hw2 => ?_)
  obtain ⟨ad1, he, hL, hfr, hX⟩ := hp
  have hL1 : L1 = ix_L ad1 (n + 1 + k) := hL
  rw [hL1] at hw2
  have e1 : ad1 n = q := (he n (by omega)).trans e0
  have e2 : ix_e n ad ad1 := fun i hi => (he i (by omega)).trans (va_up_ne _ _ (by omega))
  have hk := kk ad1 f1 H2 locs2 e2 (fun i hi => by
    have h1 : va_up ad n q i = ad i := va_up_ne _ _ (by omega)
    have h2 := hfr i (by omega) (by omega)
    rw [h1] at h2
    rw [e2 i hi]
    refine h2.trans (va_up_ne _ _ (fun h => hq ?_))
    rw [← h]
    exact ix_in hi) hX hw2
  rw [e1] at hk
  exact hk
end IXM
