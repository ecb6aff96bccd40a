/-! ORDER, SIGNS, ONE MORE -/
theorem q_i3_lt {a b : Int} (h : a < b) : q_i3 a b = -1 := if_pos h
theorem q_i3_eq {a b : Int} (h : a = b) : q_i3 a b = 0 := by
  unfold q_i3
  rw [if_neg (by omega), if_pos h]
theorem q_i3_gt {a b : Int} (h : b < a) : q_i3 a b = 1 := by
  unfold q_i3
  rw [if_neg (by omega), if_neg (by omega)]
theorem bd_ord1 {n k : Nat} {g gx : Int32} {f t : Nat → Nat} (hx : (g = 0 ∧ q_s f n = 0) ∨ ((g = 1 ∨ g = -1) ∧ 0 < q_s f n)) (hy : (gx = 0 ∧ q_s t k = 0) ∨ ((gx = 1 ∨ gx = -1) ∧ 0 < q_s t k)) (hne : ¬ g = gx) : (if g < gx then (-1 : Int32) else if g = gx then 0 else 1) = q_i3 (g.toInt * (q_s f n : Int)) (gx.toInt * (q_s t k : Int)) := by
  rcases hx with ⟨h1, hx⟩ | ⟨h1 | h1, hx⟩ <;> rcases hy with ⟨h2, hy⟩ | ⟨h2 | h2, hy⟩ <;> rw [h1, h2] at hne <;> rw [h1, h2] <;>
    first
    | exact absurd rfl hne
    | (rw [if_pos (by decide +kernel), q_i3_lt (by simp only [i0, i1, im1]; omega)])
    | (rw [if_neg (by decide +kernel), if_neg (by decide +kernel), q_i3_gt (by simp only [i0, i1, im1]; omega)])
theorem bd_ord2 {a b : Nat} {g : Int32} (h : g = 0 ∧ a = 0 ∧ b = 0 ∨ g = 1) : q_c3 a b = q_i3 (g.toInt * (a : Int)) (g.toInt * (b : Int)) := by
  rcases h with ⟨h1, h2, h3⟩ | h1
  · rw [h1, h2, h3]
    rfl
  · rw [h1, i1]
    rcases Nat.lt_trichotomy a b with q | q | q
    · rw [q_c3_lt q, q_i3_lt (by omega)]
    · rw [q_c3_eq q, q_i3_eq (by omega)]
    · rw [q_c3_gt q, q_i3_gt (by omega)]
theorem bd_ord3 {a b : Nat} {g : Int32} (h : g = -1) : q_c3 b a = q_i3 (g.toInt * (a : Int)) (g.toInt * (b : Int)) := by
  rw [h, im1]
  rcases Nat.lt_trichotomy a b with q | q | q
  · rw [q_c3_gt q, q_i3_gt (by omega)]
  · rw [q_c3_eq q.symm, q_i3_eq (by omega)]
  · rw [q_c3_lt q, q_i3_lt (by omega)]
theorem bd_ok_sz {n : Nat} {g : Int32} {f : Nat → Nat} (h : bd_ok (n, g, f)) : n ≤ 24 ∧ q_r f ∧ bd_tp n f := ⟨h.1, h.2.1, h.2.2.1⟩
theorem bd_n_v {n : Nat} {g : Int32} {f : Nat → Nat} {v : Int} (h : bd_n (n, g, f) v) : g.toInt * (q_s f n : Int) = v := h.2
/-- the sign tells on which side of 0 -/
theorem bd_n_sg {n : Nat} {g : Int32} {f : Nat → Nat} {v : Int} (h : bd_n (n, g, f) v) : (g = 0 ∧ v = 0) ∨ (g = 1 ∧ 0 < v) ∨ (g = -1 ∧ v < 0) := by
  have h2 := bd_n_v h
  rcases bd_ok_m h.1 with ⟨h1, h3⟩ | ⟨h1 | h1, h3⟩ <;> rw [h1] at h2 <;> simp only [i0, i1, im1] at h2
  · exact Or.inl ⟨h1, by omega⟩
  · exact Or.inr (Or.inl ⟨h1, by omega⟩)
  · exact Or.inr (Or.inr ⟨h1, by omega⟩)
theorem bd_n_m {n : Nat} {g : Int32} {f : Nat → Nat} {v : Int} (h : bd_n (n, g, f) v) : q_s f n = v.natAbs := by
  have h2 := bd_n_v h
  rcases bd_ok_m h.1 with ⟨h1, h3⟩ | ⟨h1 | h1, h3⟩ <;> rw [h1] at h2 <;> simp only [i0, i1, im1] at h2 <;> omega
theorem bd_n_turn {n : Nat} {g : Int32} {f : Nat → Nat} {v : Int} (h : bd_n (n, g, f) v) : bd_n (n, -g, f) (-v) := by
  have h2 := bd_n_v h
  obtain ⟨⟨h3, h4, h5, h6⟩, -⟩ := h
  refine ⟨⟨h3, h4, h5, ?_⟩, ?_⟩
  · rcases h6 with ⟨q, r⟩ | ⟨q, r | r⟩
    · exact Or.inl ⟨q, by show -g = 0; rw [show g = 0 from r]; decide +kernel⟩
    · exact Or.inr ⟨q, Or.inr (by show -g = -1; rw [show g = 1 from r])⟩
    · exact Or.inr ⟨q, Or.inl (by show -g = 1; rw [show g = -1 from r]; decide +kernel)⟩
  · show (-g).toInt * (q_s f n : Int) = -v
    rw [← h2]
    rcases h6 with ⟨q, r⟩ | ⟨q, r | r⟩ <;> rw [show g = _ from r] <;> first | (rw [show (-(0 : Int32)).toInt = 0 from rfl, i0]; omega) | (rw [show (-(1 : Int32)).toInt = -1 from rfl, i1]; omega) | (rw [show (-(-1 : Int32)).toInt = 1 from rfl, im1]; omega)
theorem bd_n_abs {n : Nat} {g : Int32} {f : Nat → Nat} {v : Int} (h : bd_n (n, g, f) v) : bd_n (n, (if 0 ≤ g then g else 0 - g), f) (v.natAbs : Int) := by
  have hm := bd_n_m h
  have hs := bd_n_sg h
  rcases hs with ⟨h1, h2⟩ | ⟨h1, h2⟩ | ⟨h1, h2⟩
  · rw [if_pos (by rw [h1]; decide +kernel)]
    exact ⟨h.1, by rw [h.2]; omega⟩
  · rw [if_pos (by rw [h1]; decide +kernel)]
    exact ⟨h.1, by rw [h.2]; omega⟩
  · rw [if_neg (by rw [h1]; decide +kernel)]
    have h3 := bd_n_turn h
    rw [show (0 : Int32) - g = -g by rw [h1]; decide +kernel]
    exact ⟨h3.1, by rw [h3.2]; omega⟩
theorem q_ff {f : Nat → Nat} : ∀ {i : Nat}, (∀ j, j < i → f j = 4294967295) → q_s f i + 1 = 4294967296 ^ i
  | 0, _ => rfl
  | i + 1, h => by
    have h1 := q_ff (i := i) (fun j hj => h j (by omega))
    show q_s f i + f i * 4294967296 ^ i + 1 = _
    rw [h i (by omega), q_ps]
    omega
theorem q_zz {f : Nat → Nat} : ∀ {i : Nat}, (∀ j, j < i → f j = 0) → q_s f i = 0
  | 0, _ => rfl
  | i + 1, h => by
    show q_s f i + f i * _ = 0
    rw [h i (by omega), Nat.zero_mul, Nat.add_zero]
    exact q_zz (fun j hj => h j (by omega))
/-- one more: full limbs become 0, the first that isn't full grows -/
theorem q_inc {f r : Nat → Nat} {n i : Nat} (hi : i < n) (hF : ∀ j, j < i → f j = 4294967295) (h0 : ∀ j, j < i → r j = 0) (h1 : r i = f i + 1) (h2 : ∀ j, i < j → r j = f j) : q_s r n = q_s f n + 1 := by
  obtain ⟨k, rfl⟩ : ∃ k, n = (i + 1) + k := ⟨n - (i + 1), by omega⟩
  rw [q_sp (i + 1) k, q_sp (i + 1) k, q_cg (g := fun j => r (i + 1 + j)) (f := fun j => f (i + 1 + j)) (fun j hj => h2 _ (by omega))]
  have h3 := q_ff hF
  have h4 := q_zz h0
  have h5 : q_s r (i + 1) = q_s f (i + 1) + 1 := by
    show q_s r i + r i * _ = q_s f i + f i * _ + 1
    rw [h4, h1, Nat.add_mul, Nat.one_mul]
    omega
  omega
theorem bd_al2 {z z1 : Nat → Wh} {h x n nx : Nat} {g gx : Int32} {f f1 fx : Nat → Nat} (hz : z h = (n, g, f)) (hz1 : z1 h = (n, g, f1)) (hfr : ∀ b, b ≠ h → z1 b = z b) (hx : z x = (nx, gx, fx)) : ∃ f2, z1 x = (nx, gx, f2) := by
  by_cases e : x = h
  · subst e
    rw [hz] at hx
    cases hx
    exact ⟨_, hz1⟩
  · exact ⟨fx, by rw [hfr x e]; exact hx⟩
theorem bd_al3 {z z1 : Nat → Wh} {h x n n1 nx : Nat} {g gx : Int32} {f fx : Nat → Nat} (hz : z h = (n, g, f)) (hz1 : z1 h = (n1, g, f)) (hfr : ∀ b, b ≠ h → z1 b = z b) (hx : z x = (nx, gx, fx)) : ∃ n2, z1 x = (n2, gx, fx) := by
  by_cases e : x = h
  · subst e
    rw [hz] at hx
    cases hx
    exact ⟨_, hz1⟩
  · exact ⟨nx, by rw [hfr x e]; exact hx⟩
section BDY
variable {p : Program} {l : Launch} {e : Env} {R : Room} {s : State} {m : MethodId} {args : Array Value} {below : List Frame} {meth : Method} {c : Code} {H : Heap} {locs : List Loc} {cells slots : Nat} {Q : State → Prop}
variable {cc : ByteArray} {pc nL : Nat} {ls : Array Slot} {rest : List Value} {K : Cxt} {E : Nat → va_E} {z : Nat → Wh} {A : Nat → Prop} {a b : Nat} {Ts : List Cond} {H0 : Heap} {own : String} {ix : Nat}
theorem bd_cpyf (f t : Nat → Nat) (n : Nat) : va_cpy (fun j => lN (f j)) (fun j => lN (t j)) 0 0 n = fun j => lN (if j < n then f j else t j) := by
  funext j
  unfold va_cpy
  by_cases h : j < n
  · rw [if_pos ⟨Nat.zero_le _, by omega⟩, if_pos h, Nat.zero_add, Nat.sub_zero]
  · rw [if_neg (by omega), if_neg h]
theorem bd_cpy (C : bd_C p s m args c cc nL Ts own K) (hls : ls.size = nL) (hw : bd_W K E z A H0 H locs) (ha : a ∈ bd_N K) (hb' : b ∈ bd_N K) {n n2 k : Nat} {g g2 : Int32} {f t : Nat → Nat} (hz : z a = (n, g, t)) (hz2 : z b = (n2, g2, f)) (hk : k ≤ 24) (hd : decode cc pc = .ok (.invokestatic ix, 3)) (l1 : Cond.methodLink own ix arraycopyName ∈ Ts) (l2 : Cond.native arraycopyName ∈ Ts) (l3 : Cond.static arraycopyName ∈ Ts) (l4 : Cond.initialized "java/lang/System" ∈ Ts)
    (hfr : 1 ≤ R.frames) (hlo : (rest.map fun v => v.category).sum + (nativeFrameWords "java/lang/System" "arraycopy" 5 + 11) ≤ R.locals)
    (kk : ∀ (z1 : Nat → Wh) (H1 : Heap) (locs1 : List Loc), z1 a = (n, g, fun j => if j < k then f j else t j) → (∀ b, b ≠ a → z1 b = z b) → bd_W K E z1 A H0 H1 locs1 → W p l e R s m args below meth c H1 locs1 cells slots Q (F0 m (pc + 3) ls rest)) : W p l e R s m args below meth c H locs cells slots Q (F0 m pc ls (.int (nI k) :: .int (nI 0) :: .ref (bd_r K a) :: .int (nI 0) :: .ref (bd_r K b) :: rest)) := by
  obtain ⟨hx, hb, hml, hown, hts, hK, hy, hNs⟩ := C
  obtain ⟨q1, hq1⟩ := va_pl_get (X := []) (f := bd_e K E z) (hy a ha).2.1
  obtain ⟨q0, hq0⟩ := va_pl_get (X := []) (f := bd_e K E z) (hy b hb').2.1
  have hq := hq1
  rw [bd_eR hy ha, hz] at hq
  rw [bd_eR hy hb', hz2] at hq0
  have hu := bd_uR (E := E) (z := z) hy ha (fun j => if j < k then f j else t j)
  rw [hz] at hu
  have hk1 : (nI k).toNatClampNeg = k := nI_clamp (by omega)
  have h0 : (nI 0).toNatClampNeg = 0 := nI_clamp (by decide)
  have h9 := va_copyl (m := m) (args := args) (l := l) (e := e) (R := R) (below := below) (meth := meth) (cells := cells) (slots := slots) (Q := Q) (ls := ls) (rest := rest) (D := bd_D K) (ty := .long) (sp := nI 0) (dp := nI 0) (n := nI k) hx hb (hml.trans hls.symm) hown (hts _ l1) (hts _ l2) (hts _ l3) (hts _ l4) hK hw.1 hw.2.1 hw.2.2 q0 q1 1 1 hq0 hq rfl rfl rfl (nI_pos (by decide)) (nI_pos (by decide)) (nI_pos (by omega)) (by rw [hk1, h0]; omega) (by rw [hk1, h0]; omega) (fun _ _ => rfl) hfr hlo hd
  rw [hk1, h0, bd_cpyf] at h9
  exact h9 (fun H1 locs1 h1 h2 h3 => kk _ H1 locs1 (va_up_self z a _) (fun b hb => va_up_ne z _ hb) (bd_set hw.2.1 (hy a ha).2.1 hq1 hu h1 h2 h3))
end BDY
/-- a number whose limbs are another one's -/
theorem bd_n_copy {n : Nat} {g : Int32} {f r : Nat → Nat} {v : Int} (h : bd_n (n, g, f) v) (hr : q_r r) (he : ∀ j, j < n → r j = f j) : bd_n (n, g, r) v := by
  obtain ⟨⟨h1, h2, h3, h4⟩, h5⟩ := h
  refine ⟨⟨h1, hr, fun h => ?_, h4⟩, ?_⟩
  · have : r (n - 1) = f (n - 1) := he _ (by show n - 1 < n; have : 0 < n := h; omega)
    show r (n - 1) ≠ 0
    rw [this]
    exact h3 h
  · show g.toInt * (q_s r n : Int) = v
    rw [q_cg he]
    exact h5
theorem q_r_if {f t : Nat → Nat} {k : Nat} (hf : q_r f) (ht : q_r t) : q_r (fun j => if j < k then f j else t j) := fun j hj => by
  show (if j < k then f j else t j) < _
  split
  · exact hf j hj
  · exact ht j hj
