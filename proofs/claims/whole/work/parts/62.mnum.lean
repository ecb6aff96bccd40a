/-! NUMBERS OF THE MODEL: limbs of 24 bits; the ints' shifts and masks -/
section MAR
variable {p : Program} {l : Launch} {e : Env} {R : Room} {s : State} {m : MethodId} {args : Array Value} {below : List Frame} {meth : Method} {c : Code} {H : Heap} {locs : List Loc} {cells slots : Nat} {Q : State → Prop} {cc : ByteArray} {pc : Nat} {ls : Array Slot} {rest : List Value}
theorem bd_ishl {x y v : Int32} (hx : p.tables.exec = Jvm.exec) (hb : c.code = cc) (hd : decode cc pc = .ok (.ishl, 1)) (hv : x <<< (y &&& 31) = v) (kk : W p l e R s m args below meth c H locs cells slots Q (F0 m (pc + 1) ls (.int v :: rest))) : W p l e R s m args below meth c H locs cells slots Q (F0 m pc ls (.int y :: .int x :: rest)) := by
  subst hv
  exact lv_ishl hx hb hd kk
end MAR
theorem nI_mul (a b : Nat) : nI a * nI b = nI (a * b) := (Int32.ofNat_mul a b).symm
theorem i_inj {a b : Int32} (h : a.toBitVec = b.toBitVec) : a = b := Int32.toBitVec_inj.mp h
theorem i_tb (n : Nat) : (nI n).toBitVec = BitVec.ofNat 32 n := rfl
theorem i_tz (n : Int) : (iZ n).toBitVec = BitVec.ofInt 32 n := rfl
theorem i_sm : ∀ k, k < 32 → ((nI k &&& 31).toBitVec.smod 32) = BitVec.ofNat 32 k := by decide +kernel
theorem i_shl (a : Nat) {k : Nat} (hk : k < 32) : nI a <<< (nI k &&& 31) = nI (a * 2 ^ k) := by
  apply i_inj
  rw [Int32.toBitVec_shiftLeft, i_sm k hk, i_tb, i_tb]
  apply BitVec.eq_of_toNat_eq
  rw [BitVec.shiftLeft_eq', BitVec.toNat_shiftLeft, BitVec.toNat_ofNat, BitVec.toNat_ofNat, BitVec.toNat_ofNat, Nat.mod_eq_of_lt (show k < 2 ^ 32 by omega), Nat.shiftLeft_eq, Nat.mod_mul_mod]
theorem i_shr {v : Int} {k : Nat} (h1 : -2147483648 ≤ v) (h2 : v < 2147483648) (hk : k < 32) : iZ v >>> (nI k &&& 31) = iZ (v / ((2 ^ k : Nat) : Int)) := by
  apply Int32.toInt_inj.mp
  have hp : 0 < 2 ^ k := Nat.pow_pos (by decide)
  have h3 : -2147483648 ≤ v / ((2 ^ k : Nat) : Int) := Int.le_ediv_of_mul_le (by omega) (by
    have : (-2147483648 : Int) * ((2 ^ k : Nat) : Int) ≤ -2147483648 * 1 := Int.mul_le_mul_of_nonpos_left (by omega) (by omega)
    omega)
  have h4 : v / ((2 ^ k : Nat) : Int) < 2147483648 := Int.ediv_lt_of_lt_mul (by omega) (by
    have : (2147483648 : Int) * 1 ≤ 2147483648 * ((2 ^ k : Nat) : Int) := Int.mul_le_mul_of_nonneg_left (by omega) (by omega)
    omega)
  rw [iZ_toInt h3 h4]
  show (iZ v >>> (nI k &&& 31)).toBitVec.toInt = _
  rw [Int32.toBitVec_shiftRight, i_sm k hk, BitVec.sshiftRight_eq', BitVec.toInt_sshiftRight, BitVec.toNat_ofNat, Nat.mod_eq_of_lt (show k < 2 ^ 32 by omega), Int.shiftRight_eq_div_pow]
  show (iZ v).toInt / _ = _
  rw [iZ_toInt h1 h2]
theorem i_and {a b : Nat} (ha : a < 2 ^ 32) (hb : b < 2 ^ 32) : nI a &&& nI b = nI (a &&& b) := by
  apply i_inj
  rw [Int32.toBitVec_and, i_tb, i_tb, i_tb]
  apply BitVec.eq_of_toNat_eq
  rw [BitVec.toNat_and, BitVec.toNat_ofNat, BitVec.toNat_ofNat, BitVec.toNat_ofNat, Nat.mod_eq_of_lt ha, Nat.mod_eq_of_lt hb, Nat.mod_eq_of_lt (Nat.lt_of_le_of_lt Nat.and_le_left ha)]
theorem i_or {a b : Nat} (ha : a < 2 ^ 32) (hb : b < 2 ^ 32) : nI a ||| nI b = nI (a ||| b) := by
  apply i_inj
  rw [Int32.toBitVec_or, i_tb, i_tb, i_tb]
  apply BitVec.eq_of_toNat_eq
  rw [BitVec.toNat_or, BitVec.toNat_ofNat, BitVec.toNat_ofNat, BitVec.toNat_ofNat, Nat.mod_eq_of_lt ha, Nat.mod_eq_of_lt hb, Nat.mod_eq_of_lt (Nat.or_lt_two_pow ha hb)]
theorem i_ms {a : Nat} (ha : a < 2 ^ 32) : nI a &&& nI 16777215 = nI (a % 16777216) := by
  rw [i_and ha (by decide), show (16777215 : Nat) = 2 ^ 24 - 1 by decide, Nat.and_two_pow_sub_one_eq_mod]
theorem i_b1 {a : Nat} (ha : a < 2 ^ 32) : nI a &&& nI 1 = nI (a % 2) := by
  rw [i_and ha (by decide), show (1 : Nat) = 2 ^ 1 - 1 by decide, Nat.and_two_pow_sub_one_eq_mod]
theorem i_msZ (v : Int) : iZ v &&& nI 16777215 = nI (v % 16777216).toNat := by
  apply i_inj
  rw [Int32.toBitVec_and, i_tb, i_tb, i_tz]
  apply BitVec.eq_of_toNat_eq
  rw [BitVec.toNat_and, BitVec.toNat_ofNat, BitVec.toNat_ofNat, BitVec.toNat_ofInt, show 16777215 % 2 ^ 32 = 2 ^ 24 - 1 by decide, Nat.and_two_pow_sub_one_eq_mod]
  omega
theorem i_shn {a k : Nat} (ha : a < 2 ^ 31) (hk : k < 32) : nI a >>> (nI k &&& 31) = nI (a / 2 ^ k) := by
  have := i_shr (v := (a : Int)) (k := k) (by omega) (by omega) hk
  rw [iZ_nat] at this
  rw [this, ← Int.natCast_ediv, iZ_nat]
/-- an or of parts that don't touch -/
theorem i_ora {k x y : Nat} (hy : y < 2 ^ k) : x * 2 ^ k ||| y = x * 2 ^ k + y := by
  rw [Nat.mul_comm, Nat.two_pow_add_eq_or_of_lt hy]
/-! limbs of 24 bits -/
def h_s (f : Nat → Nat) : Nat → Nat
  | 0 => 0
  | n + 1 => h_s f n + f n * 16777216 ^ n
theorem hBp (n : Nat) : 0 < 16777216 ^ n := Nat.pow_pos (by decide)
theorem h_lt {f : Nat → Nat} : ∀ {n : Nat}, (∀ k, k < n → f k < 16777216) → h_s f n < 16777216 ^ n := by
  intro n
  induction n with
  | zero => intro _; exact Nat.one_pos
  | succ n ih =>
    intro h
    have h1 := ih (fun k hk => h k (by omega))
    have h2 := h n (by omega)
    show h_s f n + f n * 16777216 ^ n < _
    rw [Nat.pow_succ]
    have h3 : f n * 16777216 ^ n ≤ 16777215 * 16777216 ^ n := Nat.mul_le_mul_right _ (by omega)
    omega
theorem h_cg {f g : Nat → Nat} : ∀ {n : Nat}, (∀ k, k < n → f k = g k) → h_s f n = h_s g n := by
  intro n
  induction n with
  | zero => intro _; rfl
  | succ n ih =>
    intro h
    show h_s f n + f n * _ = h_s g n + g n * _
    rw [ih (fun k hk => h k (by omega)), h n (by omega)]
theorem h_of (X : Nat) : ∀ n, h_s (fun k => X / 16777216 ^ k % 16777216) n = X % 16777216 ^ n := by
  intro n
  induction n with
  | zero => show 0 = X % 1; omega
  | succ n ih =>
    show h_s _ n + X / 16777216 ^ n % 16777216 * 16777216 ^ n = _
    rw [ih, Nat.mod_pow_succ, Nat.mul_comm]
theorem h_dig {f : Nat → Nat} {n k : Nat} (h : ∀ j, j < n → f j < 16777216) (hk : k < n) : h_s f n / 16777216 ^ k % 16777216 = f k := by
  induction n with
  | zero => omega
  | succ n ih =>
    show (h_s f n + f n * 16777216 ^ n) / 16777216 ^ k % 16777216 = f k
    rcases Nat.lt_or_ge k n with q | q
    · have e1 : f n * 16777216 ^ n = f n * 16777216 ^ (n - k - 1) * 16777216 * 16777216 ^ k := by
        rw [Nat.mul_assoc (f n * _), ← Nat.pow_succ', Nat.mul_assoc, ← Nat.pow_add]
        congr 2
        omega
      rw [e1, Nat.add_mul_div_right _ _ (hBp k), Nat.add_mul_mod_self_right]
      exact ih (fun j hj => h j (by omega)) q
    · have : k = n := by omega
      subst this
      have h1 := h_lt (f := f) (n := k) (fun j hj => h j (by omega))
      rw [Nat.add_mul_div_right _ _ (hBp k), Nat.div_eq_of_lt h1, Nat.zero_add]
      exact Nat.mod_eq_of_lt (h k (by omega))
theorem h_ofd {f : Nat → Nat} {n X : Nat} (h : ∀ k, k < n → f k = X / 16777216 ^ k % 16777216) (hX : X < 16777216 ^ n) : h_s f n = X := by
  rw [h_cg h, h_of, Nat.mod_eq_of_lt hX]
theorem h_z {f : Nat → Nat} : ∀ {n : Nat}, h_s f n = 0 ↔ ∀ k, k < n → f k = 0 := by
  intro n
  induction n with
  | zero => exact ⟨fun _ k hk => absurd hk (by omega), fun _ => rfl⟩
  | succ n ih =>
    have hB := hBp n
    constructor
    · intro h k hk
      have h0 : h_s f n + f n * 16777216 ^ n = 0 := h
      have h1 : h_s f n = 0 := by omega
      have h2 : f n * 16777216 ^ n = 0 := by omega
      have h3 : f n = 0 := by
        rcases Nat.mul_eq_zero.mp h2 with q | q
        · exact q
        · omega
      rcases Nat.lt_or_ge k n with q | q
      · exact ih.mp h1 k q
      · rw [show k = n by omega]
        exact h3
    · intro h
      show h_s f n + f n * 16777216 ^ n = 0
      rw [ih.mpr (fun k hk => h k (by omega)), h n (by omega)]
      omega
/-- the topmost limb that differs decides -/
theorem h_top {f g : Nat → Nat} {n k : Nat} (hf : ∀ j, j < n → f j < 16777216) (hg : ∀ j, j < n → g j < 16777216) (hk : k < n) (he : ∀ j, k < j → j < n → f j = g j) (hne : f k < g k) : h_s f n < h_s g n := by
  induction n with
  | zero => omega
  | succ n ih =>
    show h_s f n + f n * 16777216 ^ n < h_s g n + g n * 16777216 ^ n
    rcases Nat.lt_or_ge k n with q | q
    · have := ih (fun j hj => hf j (by omega)) (fun j hj => hg j (by omega)) q (fun j h1 h2 => he j h1 (by omega))
      rw [he n q (by omega)]
      omega
    · have : k = n := by omega
      subst this
      have h1 := h_lt (f := f) (n := k) (fun j hj => hf j (by omega))
      have h2 : (f k + 1) * 16777216 ^ k ≤ g k * 16777216 ^ k := Nat.mul_le_mul_right _ hne
      rw [Nat.add_mul, Nat.one_mul] at h2
      omega
theorem h_le {f : Nat → Nat} {n k : Nat} (h : k ≤ n) : h_s f k ≤ h_s f n := by
  induction n with
  | zero => rw [show k = 0 by omega]; exact Nat.le_refl _
  | succ n ih =>
    rcases Nat.lt_or_ge k (n + 1) with q | q
    · exact Nat.le_trans (ih (by omega)) (Nat.le_add_right _ _)
    · rw [show k = n + 1 by omega]
      exact Nat.le_refl _
/-- 2^n in limbs -/
theorem hP (n : Nat) : (16777216 : Nat) ^ n = 2 ^ (24 * n) := by rw [show (16777216 : Nat) = 2 ^ 24 by decide, ← Nat.pow_mul]
