/-! WHAT THE DOCUMENT SAYS OF ROWS OF PARTS, pure -/
/-- a part that counts no more -/
def sp_sp (v : Int) : Prop := v = 0 ∨ v = -1
def sp_end (p : Nat → Int) (m : Nat) : Prop := sp_sp (p m) ∧ ∀ j, j < m → ¬ sp_sp (p j)
/-- each part is spent, or at most half of the one before -/
def sp_H (p : Nat → Int) : Prop := ∀ j, sp_sp (p (j + 1)) ∨ 2 * (p (j + 1)).natAbs ≤ (p j).natAbs
theorem sp_uniq {p : Nat → Int} {m k : Nat} (h1 : sp_end p m) (h2 : sp_end p k) : m = k := by
  rcases Nat.lt_trichotomy m k with q | q | q
  · exact absurd h1.1 (h2.2 m q)
  · exact q
  · exact absurd h2.1 (h1.2 k q)
theorem sp_ex0 {p : Nat → Int} (h : sp_H p) : ∀ (N j : Nat), (p j).natAbs < 2 ^ N → ∃ m, j ≤ m ∧ m ≤ j + N + 1 ∧ sp_sp (p m) ∧ ∀ i, j ≤ i → i < m → ¬ sp_sp (p i)
  | 0, j, hj => ⟨j, Nat.le_refl j, by omega, Or.inl (by omega), fun i h1 h2 => absurd h1 (by omega)⟩
  | N + 1, j, hj => by
    rcases Classical.em (sp_sp (p j)) with q | q
    · exact ⟨j, Nat.le_refl j, by omega, q, fun i h1 h2 => absurd h1 (by omega)⟩
    · rcases h j with r | r
      · refine ⟨j + 1, by omega, by omega, r, fun i h1 h2 => ?_⟩
        rw [show i = j by omega]
        exact q
      · obtain ⟨m, h1, h2, h3, h4⟩ := sp_ex0 h N (j + 1) (by rw [Nat.pow_succ] at hj; omega)
        refine ⟨m, by omega, by omega, h3, fun i a b => ?_⟩
        by_cases c : i = j
        · rw [c]
          exact q
        · exact h4 i (by omega) b
theorem sp_ex {p : Nat → Int} (h : sp_H p) {N : Nat} (h0 : (p 0).natAbs < 2 ^ N) : ∃ m, m ≤ N + 1 ∧ sp_end p m := by
  obtain ⟨m, -, h2, h3, h4⟩ := sp_ex0 h N 0 h0
  exact ⟨m, by omega, h3, fun j hj => h4 j (Nat.zero_le j) hj⟩
def sp_ab (p : Nat → Int) : Nat → Nat
  | 0 => 0
  | m + 1 => sp_ab p m + (p m).natAbs
theorem sp_ab1 {p : Nat → Int} (h : sp_H p) : ∀ {m : Nat}, (∀ j, j < m + 1 → ¬ sp_sp (p j)) → sp_ab p (m + 1) + (p m).natAbs ≤ 2 * (p 0).natAbs
  | 0, _ => by
    show 0 + (p 0).natAbs + _ ≤ _
    omega
  | m + 1, hu => by
    have h1 := sp_ab1 h (m := m) (fun j hj => hu j (by omega))
    have h2 : 2 * (p (m + 1)).natAbs ≤ (p m).natAbs := (h m).elim (fun q => absurd q (hu (m + 1) (by omega))) id
    show sp_ab p (m + 1) + (p (m + 1)).natAbs + _ ≤ _
    omega
theorem sp_abl {p : Nat → Int} (h : sp_H p) {m : Nat} (hu : ∀ j, j < m → ¬ sp_sp (p j)) : sp_ab p m ≤ 2 * (p 0).natAbs := by
  cases m with
  | zero => exact Nat.zero_le _
  | succ m =>
    have := sp_ab1 h hu
    omega
theorem sp_le {p : Nat → Int} (h : sp_H p) : ∀ {m : Nat}, (∀ j, j < m → ¬ sp_sp (p j)) → (p m).natAbs ≤ (p 0).natAbs + 1
  | 0, _ => by omega
  | m + 1, hu => by
    have h1 := sp_le h (m := m) (fun j hj => hu j (by omega))
    rcases h m with q | q
    · rcases q with q | q <;> rw [q] <;> simp
    · omega
theorem im_p {a b c : Int} (h : a ≤ b) (hc : 0 ≤ c) : c * a ≤ c * b := Int.mul_le_mul_of_nonneg_left h hc
theorem im_n {a b c : Int} (h : a ≤ b) (hc : c ≤ 0) : c * b ≤ c * a := Int.mul_le_mul_of_nonpos_left hc h
theorem fl_abs {a : Int} {d : Nat} (hd : 0 < d) : (a / (d : Int)).natAbs ≤ a.natAbs := by
  have h1 : (0 : Int) < d := by omega
  rcases Int.lt_or_le a 0 with q | q
  · have h2 : a / (d : Int) < 0 := Int.ediv_neg_of_neg_of_pos q h1
    have h3 : a ≤ a / (d : Int) := by
      rw [Int.le_ediv_iff_mul_le h1]
      have := im_n (c := a) (show (1 : Int) ≤ d by omega) (by omega)
      omega
    omega
  · have h2 : 0 ≤ a / (d : Int) := Int.ediv_nonneg q (by omega)
    have h3 : a / (d : Int) ≤ a := Int.ediv_le_self _ q
    omega
/-- parts of a row: w, and then the one before times s by D -/
def sp_pr (D s w : Int) : Nat → Int
  | 0 => w
  | j + 1 => sp_pr D s w j * s / D
theorem sp_quart {p s D : Int} (hD : 0 < D) (hs0 : 0 ≤ s) (hs : 4 * s ≤ D) : sp_sp (p * s / D) ∨ 2 * (p * s / D).natAbs ≤ p.natAbs := by
  have h1 := Int.emod_add_mul_ediv (p * s) D
  have h2 := Int.emod_nonneg (p * s) (show D ≠ 0 by omega)
  have h3 := Int.emod_lt_of_pos (p * s) hD
  generalize p * s / D = q at *
  generalize p * s % D = r at *
  rcases Int.lt_or_le p 0 with hp | hp
  · have h4 : p * D ≤ p * (4 * s) := im_n hs (by omega)
    have h5 : p * s ≤ 0 := by
      have := im_n (c := p) hs0 (by omega)
      omega
    have h6 : p * (4 * s) = 4 * (p * s) := by rw [Int.mul_left_comm]
    rw [h6, ← h1] at h4
    rw [← h1] at h5
    have h7 : q ≤ 0 := by
      rcases Int.lt_or_le 0 q with a | a
      · have := im_p (c := D) (show (1 : Int) ≤ q by omega) (by omega)
        omega
      · exact a
    have h8 : p - 4 < 4 * q := by
      rcases Int.lt_or_le (p - 4) (4 * q) with a | a
      · exact a
      · exfalso
        have := im_p (c := D) a (by omega)
        rw [Int.mul_sub, Int.mul_left_comm, Int.mul_comm D p] at this
        omega
    by_cases a : q = 0 ∨ q = -1
    · exact Or.inl a
    · right
      omega
  · have h4 : p * (4 * s) ≤ p * D := im_p hs hp
    have h5 : 0 ≤ p * s := Int.mul_nonneg hp hs0
    have h6 : p * (4 * s) = 4 * (p * s) := by rw [Int.mul_left_comm]
    rw [h6, ← h1] at h4
    rw [← h1] at h5
    have h7 : 0 ≤ q := by
      rcases Int.lt_or_le q 0 with a | a
      · have := im_p (c := D) (show q ≤ (-1 : Int) by omega) (by omega)
        omega
      · exact a
    have h8 : 4 * q ≤ p := by
      rcases Int.lt_or_le p (4 * q) with a | a
      · exfalso
        have := im_p (c := D) (show p + 1 ≤ 4 * q by omega) (by omega)
        rw [Int.mul_add, Int.mul_left_comm D 4, Int.mul_comm D p] at this
        omega
      · exact a
    right
    omega
theorem sp_prH {D s w : Int} (hD : 0 < D) (hs0 : 0 ≤ s) (hs : 4 * s ≤ D) : sp_H (sp_pr D s w) := fun j => sp_quart hD hs0 hs
/-- the sum of a row, or with its odd parts taken away -/
def sp_row (al : Nat) (p : Nat → Int) : Nat → Int
  | 0 => 0
  | m + 1 => if al = 1 ∧ m % 2 = 1 then sp_row al p m - p m / ((2 * m + 1 : Nat) : Int) else sp_row al p m + p m / ((2 * m + 1 : Nat) : Int)
theorem sp_rowl (al : Nat) (p : Nat → Int) : ∀ m, (sp_row al p m).natAbs ≤ sp_ab p m
  | 0 => Nat.le_refl 0
  | m + 1 => by
    have h1 := sp_rowl al p m
    have h2 := fl_abs (a := p m) (d := 2 * m + 1) (by omega)
    show (if al = 1 ∧ m % 2 = 1 then sp_row al p m - p m / ((2 * m + 1 : Nat) : Int) else sp_row al p m + p m / ((2 * m + 1 : Nat) : Int)).natAbs ≤ sp_ab p m + _
    generalize p m / ((2 * m + 1 : Nat) : Int) = d at h2 ⊢
    generalize sp_row al p m = r at h1 ⊢
    split <;> omega
/-- a square by 2^Q is at most a quarter, where the number is at most a half -/
theorem sp_sq {w D : Int} (hD : 0 < D) (hw : 2 * (w.natAbs : Int) ≤ D) : 0 ≤ w * w / D ∧ 4 * (w * w / D) ≤ D := by
  have h0 : w * w = (w.natAbs : Int) * (w.natAbs : Int) := by
    rcases Int.natAbs_eq w with q | q
    · rw [← q]
    · conv => lhs; rw [q]
      rw [Int.neg_mul_neg]
  rw [h0]
  have hn : (0 : Int) ≤ w.natAbs := by omega
  generalize (w.natAbs : Int) = a at hw hn
  have h1 : 0 ≤ a * a := Int.mul_nonneg hn hn
  refine ⟨Int.ediv_nonneg h1 (by omega), ?_⟩
  have h2 : a * a / D * D ≤ a * a := Int.ediv_mul_le _ (by omega)
  have h3 : (2 * a) * (2 * a) ≤ D * D := Int.mul_le_mul hw hw (by omega) (by omega)
  have h4 : (2 * a) * (2 * a) = 4 * (a * a) := by
    rw [Int.mul_assoc, Int.mul_left_comm a 2 a]
    omega
  rw [h4] at h3
  have h5 : (4 * (a * a / D)) * D ≤ D * D := by rw [Int.mul_assoc]; omega
  exact Int.le_of_mul_le_mul_right h5 hD
theorem b9 {x : Nat} (h : x ≤ 2 ^ 270) : x < 4294967296 ^ 9 := Nat.lt_of_le_of_lt h (by decide +kernel)
theorem b24 {x : Nat} (h : x ≤ 2 ^ 700) : x < 4294967296 ^ 24 := Nat.lt_of_le_of_lt h (by decide +kernel)
