/-! a number of a world that grows is given a power of two -/
def np_K (D : va_G) (T : np_T) (L : List Nat) (x r : Nat) : Cxt := (D, T, L, [x], (fun _ => r), (fun _ => x))
/-- the number at position k is v -/
def ix_V (T : np_T) (k : Nat) (ad : Nat → Nat) (f : Nat → va_E) (v : Int) : Prop := ∃ w : Wh, bd_n w v ∧ f (ad k) = .inr (3, [.ref (ad (k + 1)), .int (nI w.1), .int w.2.1]) ∧ f (ad (k + 1)) = .inl (T.2.1, 24, .inr (.inl (fun j => lN (w.2.2 j))))
theorem bd_n0 : bd_n (0, 0, fun _ => 0) 0 := ⟨⟨Nat.zero_le _, fun _ _ => (show (0 : Nat) < 4294967296 by decide), fun q => absurd q (Nat.lt_irrefl 0), Or.inl ⟨rfl, rfl⟩⟩, rfl⟩
section NPP
variable {p : Program} {l : Launch} {e : Env} {R : Room} {s : State} {m : MethodId} {args : Array Value} {below : List Frame} {meth : Method} {c : Code} {H : Heap} {locs : List Loc} {cells slots : Nat} {Q : State → Prop}
variable {cc : ByteArray} {pc nL sz : Nat} {ls : Array Slot} {rest : List Value} {D : va_G} {T : np_T} {L0 L : List Nat} {f : Nat → va_E} {Ts : List Cond} {own : String} {N k ix : Nat} {ad : Nat → Nat}
theorem np_g {C0 : String} {T0 : u_T} {M ci a : Nat} (C : np_C p s m args meth c cc nL Ts own D T) (hi : ∀ w ∈ u_ws C0 T0 M, w ∈ Ts) (hw : np_W D L f (np_A L0 sz) s.heap H locs) (ha : a ∈ L) {fs : List Value} (hf : f a = .inr (ci, fs)) (hc : vwCl[ci]? = some (C0, T0, M)) (j : Nat) (hj : j < M) {v : Value} (hv : fs[j]? = some v) (hcls : (T0 j).1 = C0) (hd : decode cc pc = .ok (.getfield ix, 3)) (hl : Cond.fieldLink own ix C0 (T0 j).2.1 (T0 j).2.2.1 ∈ Ts)
    (kk : W p l e R s m args below meth c H locs cells slots Q (F0 m (pc + 3) ls (v :: rest))) : W p l e R s m args below meth c H locs cells slots Q (F0 m pc ls (.ref a :: rest)) := by
  obtain ⟨hx, hb, -, hown, hts, hK, hNs, hin⟩ := C
  obtain ⟨q0, hq⟩ := va_pl_get (X := []) (f := f) ha
  rw [hf] at hq
  exact va_get (D := D) (C := C0) (T := T0) (N := M) (ci := ci) (v := v) hx hb hts hi hown hK hw.1 q0 hq hc j hj (hts _ hl) (fun _ h => by rw [hcls] at h; exact h) hv hd kk
theorem np_pow {v : Nat} (C : np_C p s m args meth c cc nL Ts own D T) (hsz : s.heap.size = sz) (hw : np_W D (ix_L ad N) f (np_A L0 sz) s.heap H locs) (hsub : ∀ q, q ∈ L0 → q ∈ ix_L ad N) (hk : k + 1 < N) (hX : ix_XW T (k + 1) k ad f) (hv : v < 768) (cw : CallW R s args own RX3 ix yX3_becomePower cX3_becomePower 4 none wsX3_becomePower ({ frames := 1, cells := 0, slots := 0, locals := 30 }) 0 0 1) (hd : decode cc pc = .ok (.invokevirtual ix, 3)) (hls : ls.size = nL) (hr8 : (rest.map fun v => v.category).sum ≤ 8) (hc : cells ≤ R.cells ∧ slots ≤ R.slots)
    (kk : ∀ (f1 : Nat → va_E) (H1 : Heap) (locs1 : List Loc), (∀ i, i < N → i ≠ k → i ≠ k + 1 → f1 (ad i) = f (ad i)) → ix_V T k ad f1 ((2 ^ v : Nat) : Int) → np_W D (ix_L ad N) f1 (np_A L0 sz) s.heap H1 locs1 → W p l e R s m args below meth c H1 locs1 cells slots Q (F0 m (pc + 3) ls rest)) : W p l e R s m args below meth c H locs cells slots Q (F0 m pc ls (.int (nI v) :: .ref (ad k) :: rest)) := by
  obtain ⟨hx, hb, hml, hown, hts, hK, hNs, hin⟩ := C
  have hinj := fun {i j : Nat} => ix_inj hw.2.1 (i := i) (j := j)
  have hne : ad (k + 1) ≠ ad k := fun h => by have := hinj hk (by omega) h; omega
  let K := np_K D T (ix_L ad N) (ad k) (ad (k + 1))
  let z0 : Nat → Wh := fun _ => (0, 0, fun _ => 0)
  have hy : bd_y K := fun b hb => by
    have hb : b = ad k := List.mem_singleton.mp hb
    subst hb
    exact ⟨ix_in (by omega), ix_in hk, fun h => hne (List.mem_singleton.mp h), rfl⟩
  have hA : bd_A K sz = np_A L0 sz := by
    funext q
    apply propext
    constructor
    · intro h
      rcases h with h | h
      · obtain ⟨k9, hk9⟩ := va_pl_get (X := []) (f := f) h
        exact hw.2.1.2 k9 _ hk9
      · exact Or.inr h
    · intro h
      rcases h with h | h
      · exact Or.inl (hsub q h)
      · exact Or.inr h
  have he : bd_e K f z0 = f := by
    funext q
    by_cases h1 : q = ad k
    · subst h1
      rw [bd_eW (K := K) (List.mem_singleton.mpr rfl)]
      exact hX.1.symm
    · by_cases h2 : q = ad (k + 1)
      · subst h2
        have := bd_eR (K := K) (E := f) (z := z0) hy (b := ad k) (List.mem_singleton.mpr rfl)
        exact this.trans hX.2.symm
      · exact bd_e0 ⟨fun h => h1 (List.mem_singleton.mp h), fun h => h2 h.2.symm⟩
  have hw1 : bd_W K f z0 (bd_A K sz) s.heap H locs := by
    unfold bd_W
    rw [hA, he]
    exact hw
  have C1 : bd_C p s m args c cc nL Ts own K := ⟨hx, hb, hml, hown, hts, hK, hy, hNs⟩
  have hS : sg_S K z0 (fun _ => 0) := fun a _ => bd_n0
  refine bd_cv (As := [.int (nI v)]) (rest := rest) C1 (v3_becomePower l K f z0 H.size hS (ad k) v (List.mem_singleton.mpr rfl) hv) cw hsz hw1 (bd_recv C1 hw1 (List.mem_singleton.mpr rfl)) hd rfl hls rfl hr8 hc (fun E1 z1 H1 locs1 hp hw2 => ?_)
  obtain ⟨hE, hS1⟩ := hp
  have hE : E1 = f := hE
  subst hE
  have hn := hS1 (ad k) (List.mem_singleton.mpr rfl)
  rw [va_up_self] at hn
  have hw3 : np_W D (ix_L ad N) (bd_e K E1 z1) (np_A L0 sz) s.heap H1 locs1 := by
    unfold bd_W at hw2
    rw [hA] at hw2
    exact hw2
  refine kk (bd_e K E1 z1) H1 locs1 (fun i h1 h2 h3 => bd_e0 ⟨fun h => h2 (hinj h1 (by omega) (List.mem_singleton.mp h)), fun h => h3 (hinj h1 hk h.2.symm)⟩) ⟨z1 (ad k), hn, bd_eW (K := K) (List.mem_singleton.mpr rfl), bd_eR (K := K) hy (List.mem_singleton.mpr rfl)⟩ hw3
end NPP
