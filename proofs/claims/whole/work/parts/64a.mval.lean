/-! THE MODEL BY VALUES: register r holds rg r -/
def mv_i (F : Nat → Nat → Nat) (G : Nat → Int32) (rg : Nat → Int) : Prop := ∀ r, r < 60 → (∀ k, k < 34 → F r k < 16777216) ∧ h_s (F r) 34 = (rg r).natAbs ∧ G r = q_sg (rg r)
def md_v (K : Cxt) (E : Nat → va_E) (mo : Nat → Nat) (th : Int32) (P : Nat) (rg : Nat → Int) : Prop := ∃ (F : Nat → Nat → Nat) (G : Nat → Int32) (S R : Nat → Nat), md_at K E mo th P F G S R ∧ mv_i F G rg
/-- a call that gives register t the value v -/
def mv_q (K : Cxt) (mo : Nat → Nat) (th : Int32) (P : Nat) (rg0 : Nat → Int) (t : Nat) (v : Int) (u : bd_U) : Prop := ∃ rg : Nat → Int, md_v K u.1 mo th P rg ∧ rg t = v ∧ ∀ j, j ≠ t → rg j = rg0 j
theorem mv_up {F : Nat → Nat → Nat} {G : Nat → Int32} {rg : Nat → Int} (h : mv_i F G rg) (r : Nat) {f1 : Nat → Nat} {g : Int32} {v : Int} (h1 : ∀ k, k < 34 → f1 k < 16777216) (h2 : h_s f1 34 = v.natAbs) (h3 : g = q_sg v) : mv_i (va_up F r f1) (va_up G r g) (va_up rg r v) := by
  intro j hj
  by_cases q : j = r
  · subst q
    rw [va_up_self, va_up_self, va_up_self]
    exact ⟨h1, h2, h3⟩
  · rw [va_up_ne _ _ q, va_up_ne _ _ q, va_up_ne _ _ q]
    exact h j hj
theorem mv_end {K : Cxt} {E : Nat → va_E} {z : Nat → Wh} {mo : Nat → Nat} {th : Int32} {P : Nat} {F : Nat → Nat → Nat} {G : Nat → Int32} {S R : Nat → Nat} {rg : Nat → Int} {r : Nat} {f1 : Nat → Nat} {g : Int32} {v : Int} (hm : md_at K E mo th P (va_up F r f1) (va_up G r g) S R) (h : mv_i F G rg) (h1 : ∀ k, k < 34 → f1 k < 16777216) (h2 : h_s f1 34 = v.natAbs) (h3 : g = q_sg v) : mv_q K mo th P rg r v (E, z) :=
  ⟨va_up rg r v, ⟨_, _, _, _, hm, mv_up h r h1 h2 h3⟩, va_up_self _ _ _, fun j hj => va_up_ne _ _ hj⟩
theorem mv_P {K : Cxt} {E : Nat → va_E} {mo : Nat → Nat} {th : Int32} {P : Nat} {rg : Nat → Int} (h : md_v K E mo th P rg) : 16 ≤ P ∧ P ≤ 192 := by
  obtain ⟨F, G, S, R, hm, -⟩ := h
  exact md_P hm
theorem sg_if {v : Int} {x : Nat} {g : Int32} (h : x = v.natAbs) (hg : v ≠ 0 → g = q_sg v) : (if x = 0 then 0 else g) = q_sg v := by
  by_cases q : v = 0
  · subst q
    rw [if_pos (by omega)]
    rfl
  · rw [if_neg (by omega)]
    exact hg q
section MVR
variable {p : Program} {l : Launch} {e : Env} {R : Room} {s : State} {m : MethodId} {args : Array Value} {below : List Frame} {meth : Method} {c : Code} {H : Heap} {locs : List Loc} {cells slots : Nat} {Q : State → Prop}
variable {cc : ByteArray} {pc nL : Nat} {ls : Array Slot} {rest : List Value} {K : Cxt} {E : Nat → va_E} {z : Nat → Wh} {A : Nat → Prop} {Ts : List Cond} {H0 : Heap} {own : String} {ix : Nat}
variable {mo : Nat → Nat} {th : Int32} {P : Nat} {rg : Nat → Int}
theorem mv_g (C : bd_C p s m args c cc nL Ts own K) (hi : ∀ w ∈ wsX50, w ∈ Ts) (hw : bd_W K E z A H0 H locs) (hv : md_v K E mo th P rg) (k : Nat) (hk : k < 7) {v : Value} (hv9 : (md_l th P mo)[k]? = some v) (hd : decode cc pc = .ok (.getfield ix, 3)) (hl : Cond.fieldLink own ix "BallDeskModel" (TX5 k).2.1 (TX5 k).2.2.1 ∈ Ts)
    (kk : W p l e R s m args below meth c H locs cells slots Q (F0 m (pc + 3) ls (v :: rest))) : W p l e R s m args below meth c H locs cells slots Q (F0 m pc ls (.ref (mo 0) :: rest)) := by
  obtain ⟨F, G, S, R9, hm, -⟩ := hv
  exact md_g C hi hw hm k hk hv9 hd hl kk
theorem mv_pt (C : bd_C p s m args c cc nL Ts own K) (hi : ∀ w ∈ wsX50, w ∈ Ts) (hw : bd_W K E z A H0 H locs) (hv : md_v K E mo th P rg) (hd : decode cc pc = .ok (.putfield ix, 3)) (hl : Cond.fieldLink own ix "BallDeskModel" "thrown" "I" ∈ Ts) {t1 : Int32}
    (kk : ∀ (E1 : Nat → va_E) (H1 : Heap) (locs1 : List Loc), md_v K E1 mo t1 P rg → bd_W K E1 z A H0 H1 locs1 → W p l e R s m args below meth c H1 locs1 cells slots Q (F0 m (pc + 3) ls rest)) : W p l e R s m args below meth c H locs cells slots Q (F0 m pc ls (.int t1 :: .ref (mo 0) :: rest)) := by
  obtain ⟨F, G, S, R9, hm, hi9⟩ := hv
  exact md_pt C hi hw hm hd hl (fun E1 H1 locs1 h1 h2 => kk E1 H1 locs1 ⟨_, _, _, _, h1, hi9⟩ h2)
theorem mv_ld2 (C : bd_C p s m args c cc nL Ts own K) (hw : bd_W K E z A H0 H locs) (hv : md_v K E mo th P rg) {r : Nat} (hd : decode cc pc = .ok (.iaload, 1)) (hr : r < 60)
    (kk : W p l e R s m args below meth c H locs cells slots Q (F0 m (pc + 1) ls (.int (q_sg (rg r)) :: rest))) : W p l e R s m args below meth c H locs cells slots Q (F0 m pc ls (.int (nI r) :: .ref (mo 2) :: rest)) := by
  obtain ⟨F, G, S, R9, hm, hi9⟩ := hv
  rw [← (hi9 r hr).2.2] at kk
  exact md_ld2 C hw hm hd hr kk
/-- a sign is written: the value's sign, or 0 -/
theorem mv_st2 (C : bd_C p s m args c cc nL Ts own K) (hw : bd_W K E z A H0 H locs) (hv : md_v K E mo th P rg) {r : Nat} {x : Int32} (v : Int) (hva : v.natAbs = (rg r).natAbs) (hx9 : x = q_sg v) (hd : decode cc pc = .ok (.iastore, 1)) (hr : r < 60)
    (kk : ∀ (E1 : Nat → va_E) (rg1 : Nat → Int) (H1 : Heap) (locs1 : List Loc), md_v K E1 mo th P rg1 → rg1 r = v → (∀ j, j ≠ r → rg1 j = rg j) → bd_W K E1 z A H0 H1 locs1 → W p l e R s m args below meth c H1 locs1 cells slots Q (F0 m (pc + 1) ls rest)) : W p l e R s m args below meth c H locs cells slots Q (F0 m pc ls (.int x :: .int (nI r) :: .ref (mo 2) :: rest)) := by
  obtain ⟨F, G, S, R9, hm, hi9⟩ := hv
  refine md_st2 C hw hm hd hr (fun E1 H1 locs1 h1 h2 => kk E1 (va_up rg r v) H1 locs1 ⟨F, _, S, R9, h1, ?_⟩ (va_up_self _ _ _) (fun j hj => va_up_ne _ _ hj) h2)
  have := mv_up hi9 r (f1 := F r) (v := v) (hi9 r hr).1 ((hi9 r hr).2.1.trans hva.symm) hx9
  rw [va_upi] at this
  exact this
theorem mv_recv (C : bd_C p s m args c cc nL Ts own K) (hw : bd_W K E z A H0 H locs) (hv : md_v K E mo th P rg) : ∃ cell : Cell, H[mo 0]? = some cell ∧ cell.vm.isStatics = false ∧ s.vm.findClass RX5 = some cell.cls := by
  obtain ⟨F, G, S, R9, hm, -⟩ := hv
  exact md_recv C hw hm
end MVR
/-! numbers for put, power, bits, sizes, compare -/
theorem l_abs {v : Int64} (h : 0 ≤ v.toInt) : v = lN v.toInt.natAbs := by
  apply Int64.toInt_inj.mp
  rw [show lN v.toInt.natAbs = Int64.ofInt (v.toInt.natAbs : Int) from rfl, show (v.toInt.natAbs : Int) = v.toInt by omega, Int64.ofInt_toInt]
theorem l_absn {v : Int64} (h : v.toInt < 0) : -v = lN v.toInt.natAbs := by
  rw [show lN v.toInt.natAbs = Int64.ofInt (v.toInt.natAbs : Int) from rfl, show (v.toInt.natAbs : Int) = -v.toInt by omega, Int64.ofInt_neg, Int64.ofInt_toInt]
theorem l_b (v : Int64) : v.toInt.natAbs < 2 ^ 64 := by
  have h1 := Int64.le_toInt v
  have h2 := Int64.toInt_lt v
  omega
theorem l_dig {u k : Nat} (hu : u < 2 ^ 64) (hk : k < 64) : ((lN u).toUInt64 >>> ((nI k).toInt64.toUInt64 &&& Int64.toUInt64 63)).toInt64 = lN (u / 2 ^ k) := wb_shr hu hk
theorem l_m24 {u : Nat} (h : u < 2 ^ 64) : lN u &&& lN 16777215 = lN (u % 16777216) := wb_mask (k := 24) h (by decide)
theorem l_2i (n : Nat) : (lN n).toInt32 = nI n := by
  apply i_inj
  rw [show (lN n).toInt32.toBitVec = (lN n).toBitVec.signExtend 32 from rfl, wb_tb, i_tb, BitVec.signExtend_eq_setWidth_of_le _ (by decide)]
  apply BitVec.eq_of_toNat_eq
  rw [BitVec.toNat_setWidth, BitVec.toNat_ofNat, BitVec.toNat_ofNat]
  omega
theorem h_pow {f : Nat → Nat} {n : Nat} (hn : n < 816) (h : ∀ j, j < 34 → f j = if j = n / 24 then 2 ^ (n % 24) else 0) : h_s f 34 = 2 ^ n ∧ ∀ j, j < 34 → f j < 16777216 := by
  have hp : 2 ^ (n % 24) < 16777216 := Nat.lt_of_lt_of_le (Nat.pow_lt_pow_right (by decide) (Nat.mod_lt n (by decide : 24 > 0))) (by decide)
  have hb : ∀ j, j < 34 → f j < 16777216 := by
    intro j hj
    rw [h j hj]
    split
    · exact hp
    · decide
  have e : ∀ m, m ≤ 34 → h_s f m = if n / 24 < m then 2 ^ n else 0 := by
    intro m
    induction m with
    | zero => intro _; rfl
    | succ m ih =>
      intro hm
      show h_s f m + f m * 16777216 ^ m = _
      rw [ih (by omega), h m (by omega)]
      by_cases q : m = n / 24
      · rw [if_neg (by omega), if_pos q, if_pos (by omega), hP, ← Nat.pow_add, Nat.zero_add]
        congr 1
        omega
      · rw [if_neg q]
        by_cases q2 : n / 24 < m
        · rw [if_pos q2, if_pos (by omega)]
          omega
        · rw [if_neg q2, if_neg (by omega)]
          omega
  exact ⟨by rw [e 34 (Nat.le_refl _), if_pos (by omega)], hb⟩
theorem bl_iff {x n : Nat} (h1 : 2 ^ n ≤ x) (h2 : x < 2 ^ (n + 1)) : q_bl x = n + 1 := by
  have h0 : x ≠ 0 := by
    have := Nat.pow_pos (n := n) (show 0 < 2 by decide)
    omega
  unfold q_bl
  rw [if_neg h0, (Nat.log2_eq_iff h0).mpr ⟨h1, h2⟩]
theorem bl_sp {x : Nat} (h0 : x ≠ 0) : 2 ^ (q_bl x - 1) ≤ x ∧ x < 2 ^ q_bl x ∧ 0 < q_bl x := by
  have h := (Nat.log2_eq_iff h0).mp rfl
  unfold q_bl
  rw [if_neg h0]
  exact ⟨h.1, h.2, by omega⟩
theorem bl_half {x : Nat} (h0 : 0 < x) : q_bl x = q_bl (x / 2) + 1 := by
  by_cases h1 : x = 1
  · subst h1
    decide +kernel
  · obtain ⟨a, b, d⟩ := bl_sp (x := x / 2) (by omega)
    have e1 : 2 ^ q_bl (x / 2) = 2 ^ (q_bl (x / 2) - 1) * 2 := by rw [← Nat.pow_succ]; congr 1; omega
    exact bl_iff (by omega) (by rw [Nat.pow_succ]; omega)
theorem bl_top {f : Nat → Nat} {j : Nat} (hf : ∀ k, k < 34 → f k < 16777216) (hj : j < 34) (h0 : f j ≠ 0) (hz : ∀ k, j < k → k < 34 → f k = 0) : q_bl (h_s f 34) = 24 * j + q_bl (f j) := by
  have e : ∀ m, j + 1 + m ≤ 34 → h_s f (j + 1 + m) = h_s f j + f j * 16777216 ^ j := by
    intro m
    induction m with
    | zero => intro _; rfl
    | succ m ih =>
      intro hm
      show h_s f (j + 1 + m) + f (j + 1 + m) * _ = _
      rw [ih (by omega), hz (j + 1 + m) (by omega) (by omega)]
      omega
  have e34 := e (33 - j) (by omega)
  rw [show j + 1 + (33 - j) = 34 by omega] at e34
  rw [e34, hP]
  have hl := h_lt (f := f) (n := j) (fun k hk => hf k (by omega))
  rw [hP] at hl
  obtain ⟨a, b, d⟩ := bl_sp h0
  have e1 : q_bl (f j) = (q_bl (f j) - 1) + 1 := by omega
  have h1 : 2 ^ (q_bl (f j) - 1) * 2 ^ (24 * j) ≤ f j * 2 ^ (24 * j) := Nat.mul_le_mul_right _ a
  have h2 : (f j + 1) * 2 ^ (24 * j) ≤ 2 ^ q_bl (f j) * 2 ^ (24 * j) := Nat.mul_le_mul_right _ b
  rw [← Nat.pow_add] at h1 h2
  rw [Nat.add_mul, Nat.one_mul] at h2
  rw [show 24 * j + q_bl (f j) = (q_bl (f j) - 1 + 24 * j) + 1 by omega]
  exact bl_iff (by omega) (by rw [show q_bl (f j) - 1 + 24 * j + 1 = q_bl (f j) + 24 * j by omega]; omega)
theorem c3_top {f g : Nat → Nat} {k : Nat} (hf : ∀ j, j < 34 → f j < 16777216) (hg : ∀ j, j < 34 → g j < 16777216) (hk : k < 34) (he : ∀ j, k < j → j < 34 → f j = g j) (h : k = 0 ∨ f k ≠ g k) : q_c3 (h_s f 34) (h_s g 34) = q_c3 (f k) (g k) := by
  rcases Nat.lt_trichotomy (f k) (g k) with q | q | q
  · rw [q_c3_lt q, q_c3_lt (h_top hf hg hk he q)]
  · have k0 : k = 0 := h.elim id (fun h => absurd q h)
    subst k0
    rw [q_c3_eq q, q_c3_eq (h_cg (fun j hj => (Nat.eq_zero_or_pos j).elim (fun r => by rw [r]; exact q) (fun r => he j r hj)))]
  · rw [q_c3_gt q, q_c3_gt (h_top hg hf hk (fun j h1 h2 => (he j h1 h2).symm) q)]
theorem sg3 (x : Int) : (x < 0 ∧ q_sg x = -1) ∨ (x = 0 ∧ q_sg x = 0) ∨ (0 < x ∧ q_sg x = 1) := by
  unfold q_sg
  rcases Int.lt_trichotomy x 0 with a | a | a
  · exact Or.inl ⟨a, if_pos a⟩
  · exact Or.inr (Or.inl ⟨a, by rw [if_neg (by omega), if_pos a]⟩)
  · exact Or.inr (Or.inr ⟨a, by rw [if_neg (by omega), if_neg (by omega)]⟩)
theorem i3l {x y : Int} (h : x < y) : q_i3 x y = -1 := if_pos h
theorem i3e {x y : Int} (h : x = y) : q_i3 x y = 0 := by
  unfold q_i3
  rw [if_neg (by omega), if_pos h]
theorem i3g {x y : Int} (h : y < x) : q_i3 x y = 1 := by
  unfold q_i3
  rw [if_neg (by omega), if_neg (by omega)]
theorem cmq_le {x y : Int} (h : q_sg x ≠ q_sg y) (h2 : q_sg x ≤ q_sg y) : q_i3 x y = -1 := by
  apply i3l
  rcases sg3 x with ⟨a, b⟩ | ⟨a, b⟩ | ⟨a, b⟩ <;> rcases sg3 y with ⟨a2, b2⟩ | ⟨a2, b2⟩ | ⟨a2, b2⟩ <;> rw [b, b2] at h h2 <;> first | omega | exact absurd rfl h | exact absurd h2 (by decide +kernel)
theorem cmq_gt {x y : Int} (h2 : ¬ q_sg x ≤ q_sg y) : q_i3 x y = 1 := by
  apply i3g
  rcases sg3 x with ⟨a, b⟩ | ⟨a, b⟩ | ⟨a, b⟩ <;> rcases sg3 y with ⟨a2, b2⟩ | ⟨a2, b2⟩ | ⟨a2, b2⟩ <;> rw [b, b2] at h2 <;> first | omega | exact absurd (by decide +kernel) h2
theorem cmq_eq {x y : Int} (h : q_sg x = q_sg y) : q_sg x * q_c3 x.natAbs y.natAbs = q_i3 x y := by
  rcases sg3 x with ⟨a, b⟩ | ⟨a, b⟩ | ⟨a, b⟩ <;> rcases sg3 y with ⟨a2, b2⟩ | ⟨a2, b2⟩ | ⟨a2, b2⟩ <;> first | (rw [b, b2] at h; exact absurd h (by decide +kernel)) | skip
  · rcases Int.lt_trichotomy x y with q | q | q
    · rw [b, q_c3_gt (by omega), i3l q]; decide +kernel
    · rw [b, q_c3_eq (by omega), i3e q]; decide +kernel
    · rw [b, q_c3_lt (by omega), i3g q]; decide +kernel
  · rw [b, i3e (by omega), q_c3_eq (by omega)]; decide +kernel
  · rcases Int.lt_trichotomy x y with q | q | q
    · rw [b, q_c3_lt (by omega), i3l q]; decide +kernel
    · rw [b, q_c3_eq (by omega), i3e q]; decide +kernel
    · rw [b, q_c3_gt (by omega), i3g q]; decide +kernel
theorem nI_p1 (j : Nat) : nI (j + 1) - nI 1 = nI j := pk_sub (a := j + 1) (b := 1) (by omega)
