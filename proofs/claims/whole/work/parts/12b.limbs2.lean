/-! SUMS AND DIFFERENCES, digit by digit -/
/-- a digit, 0 where there is none -/
def q_pd (n : Nat) (f : Nat → Nat) (j : Nat) : Nat := if j < n then f j else 0
theorem q_pd_in {n : Nat} {f : Nat → Nat} {j : Nat} (h : j < n) : q_pd n f j = f j := if_pos h
theorem q_pd_out {n : Nat} {f : Nat → Nat} {j : Nat} (h : n ≤ j) : q_pd n f j = 0 := if_neg (Nat.not_lt.mpr h)
theorem q_pd_lt {n : Nat} {f : Nat → Nat} (hf : q_r f) (hn : n ≤ 24) (j : Nat) : q_pd n f j < 4294967296 := by
  unfold q_pd
  split
  · exact hf j (by omega)
  · decide
theorem q_pd_s {n : Nat} {f : Nat → Nat} {k : Nat} (h : n ≤ k) : q_s (q_pd n f) k = q_s f n := by
  obtain ⟨r, rfl⟩ : ∃ r, k = n + r := ⟨k - n, by omega⟩
  rw [q_z (fun j h1 _ => q_pd_out h1)]
  exact q_cg (fun j hj => q_pd_in hj)
/-- what is carried into digit i -/
def q_cr (x y : Nat → Nat) : Nat → Nat
  | 0 => 0
  | i + 1 => (x i + y i + q_cr x y i) / 4294967296
def q_sm (x y : Nat → Nat) (i : Nat) : Nat := (x i + y i + q_cr x y i) % 4294967296
theorem q_cr_le {x y : Nat → Nat} (hx : ∀ j, x j < 4294967296) (hy : ∀ j, y j < 4294967296) : ∀ i, q_cr x y i ≤ 1
  | 0 => Nat.zero_le 1
  | i + 1 => by
    have h1 := q_cr_le hx hy i
    have h2 := hx i
    have h3 := hy i
    show (x i + y i + q_cr x y i) / 4294967296 ≤ 1
    omega
theorem q_sm_s (x y : Nat → Nat) : ∀ i, q_s (q_sm x y) i + q_cr x y i * 4294967296 ^ i = q_s x i + q_s y i
  | 0 => by simp [q_s, q_cr]
  | i + 1 => by
    refine q_add (q_sm_s x y i) ?_
    show (x i + y i + q_cr x y i) % 4294967296 + (x i + y i + q_cr x y i) / 4294967296 * 4294967296 = _
    omega
theorem q_gather {n k m : Nat} {f g r : Nat → Nat} (hn : n ≤ m) (hk : k ≤ m) (hr : ∀ j, j < m → r j = q_sm (q_pd n f) (q_pd k g) j) : q_s r m + q_cr (q_pd n f) (q_pd k g) m * 4294967296 ^ m = q_s f n + q_s g k := by
  rw [q_cg hr, q_sm_s, q_pd_s hn, q_pd_s hk]
/-- what is borrowed at digit i -/
def q_br (x y : Nat → Nat) : Nat → Nat
  | 0 => 0
  | i + 1 => if x i < y i + q_br x y i then 1 else 0
def q_df (x y : Nat → Nat) (i : Nat) : Nat := if x i < y i + q_br x y i then x i + 4294967296 - (y i + q_br x y i) else x i - (y i + q_br x y i)
theorem q_br_le (x y : Nat → Nat) : ∀ i, q_br x y i ≤ 1
  | 0 => Nat.zero_le 1
  | i + 1 => by
    show (if _ then 1 else 0) ≤ 1
    split <;> decide
theorem q_df_lt {x y : Nat → Nat} (hx : ∀ j, x j < 4294967296) (i : Nat) : q_df x y i < 4294967296 := by
  have h1 := hx i
  unfold q_df
  split <;> omega
theorem q_df_s {x y : Nat → Nat} (hx : ∀ j, x j < 4294967296) (hy : ∀ j, y j < 4294967296) : ∀ i, q_s (q_df x y) i + q_s y i = q_s x i + q_br x y i * 4294967296 ^ i
  | 0 => by simp [q_s, q_br]
  | i + 1 => by
    refine q_sub (q_df_s hx hy i) ?_
    have h1 := hx i
    have h2 := hy i
    have h3 := q_br_le x y i
    show q_df x y i + y i + q_br x y i = x i + (if x i < y i + q_br x y i then 1 else 0) * 4294967296
    unfold q_df
    split <;> omega
theorem q_diff {n k : Nat} {f g r : Nat → Nat} (hf : q_r f) (hg : q_r g) (hn : n ≤ 24) (hk : k ≤ n) (hle : q_s g k ≤ q_s f n) (hr : ∀ j, j < n → r j = q_df (q_pd n f) (q_pd k g) j) : q_s r n = q_s f n - q_s g k := by
  have h1 := q_df_s (q_pd_lt hf hn) (q_pd_lt hg (Nat.le_trans hk hn)) n
  rw [← q_cg hr, q_pd_s (Nat.le_refl n), q_pd_s hk] at h1
  have h2 : q_s r n < 4294967296 ^ n := q_lt (fun j hj => by rw [hr j hj]; exact q_df_lt (q_pd_lt hf hn) j)
  have h3 := q_br_le (q_pd n f) (q_pd k g) n
  rcases Nat.eq_zero_or_pos (q_br (q_pd n f) (q_pd k g) n) with q | q
  · rw [q, Nat.zero_mul] at h1
    omega
  · have : q_br (q_pd n f) (q_pd k g) n = 1 := by omega
    rw [this, Nat.one_mul] at h1
    omega
/-- a row that is written at i, seen through any other name -/
theorem bd_al {z z1 : Nat → Wh} {h x i v n nx : Nat} {g gx : Int32} {f fx : Nat → Nat} (hz : z h = (n, g, f)) (hz1 : z1 h = (n, g, va_up f i v)) (hfr : ∀ b, b ≠ h → z1 b = z b) (hx : z x = (nx, gx, fx)) : ∃ f1, z1 x = (nx, gx, f1) ∧ ∀ j, j ≠ i → f1 j = fx j := by
  by_cases e : x = h
  · subst e
    rw [hz] at hx
    cases hx
    exact ⟨_, hz1, fun j hj => va_up_ne _ _ hj⟩
  · exact ⟨fx, by rw [hfr x e]; exact hx, fun _ _ => rfl⟩
section BDM
variable {p : Program} {l : Launch} {e : Env} {R : Room} {s : State} {m : MethodId} {args : Array Value} {below : List Frame} {meth : Method} {c : Code} {H : Heap} {locs : List Loc} {cells slots : Nat} {Q : State → Prop}
variable {cc : ByteArray} {pc nL : Nat} {ls : Array Slot} {rest : List Value} {K : Cxt} {Ts : List Cond} {own : String} {ix : Nat}
theorem bd_max {a b v : Nat} (C : bd_C p s m args c cc nL Ts own K) (hls : ls.size = nL) (h1 : a < 2 ^ 31) (h2 : b < 2 ^ 31) (hv : max a b = v) (hd : decode cc pc = .ok (.invokestatic ix, 3)) (l1 : Cond.methodLink own ix Lib.Math.max.name ∈ Ts) (l2 : Cond.static Lib.Math.max.name ∈ Ts) (l3 : Cond.initialized "java/lang/Math" ∈ Ts) (l4 : Cond.code Lib.Math.max.name Lib.Math.max.code 2 (some .int) ∈ Ts)
    (hfr : 1 ≤ R.frames) (hlo : (rest.map fun v => v.category).sum + 13 ≤ R.locals) (hc : cells ≤ R.cells ∧ slots ≤ R.slots) (kk : W p l e R s m args below meth c H locs cells slots Q (F0 m (pc + 3) ls (.int (nI v) :: rest))) : W p l e R s m args below meth c H locs cells slots Q (F0 m pc ls (.int (nI b) :: .int (nI a) :: rest)) := by
  obtain ⟨hx, hb, hml, hown, hts, hK, hy, hNs⟩ := C
  refine va_mmax hx hb (hml.trans hls.symm) hown (hts _ l1) (hts _ l2) (hts _ l3) (hts _ l4) hfr hlo hc.1 hc.2 hd ?_
  have h3 : (if nI a < nI b then nI b else nI a) = nI v := by
    rw [← hv]
    by_cases q : a < b
    · rw [if_pos ((nI_ltI h1 h2).mpr q), Nat.max_eq_right (by omega)]
    · rw [if_neg (fun h => q ((nI_ltI h1 h2).mp h)), Nat.max_eq_left (by omega)]
  rw [h3]
  exact kk
end BDM
