/-! e TO A POWER, pure -/
def sp_ep (D y : Int) : Nat → Int
  | 0 => D
  | k + 1 => sp_ep D y k * y / D / ((k + 1 : Nat) : Int)
def sp_sum (p : Nat → Int) : Nat → Int
  | 0 => 0
  | m + 1 => sp_sum p m + p m
def sp_sqr (D v : Int) : Nat → Int
  | 0 => v
  | n + 1 => sp_sqr D v n * sp_sqr D v n / D
theorem sp_mulq {p y D : Int} (hD : 0 < D) (hy : 4 * (y.natAbs : Int) ≤ D) : sp_sp (p * y / D) ∨ 2 * (p * y / D).natAbs ≤ p.natAbs := by
  rcases Int.lt_or_le y 0 with q | q
  · have h1 := sp_quart (p := -p) (s := -y) hD (by omega) (by omega)
    rw [Int.neg_mul_neg, Int.natAbs_neg] at h1
    exact h1
  · exact sp_quart hD q (by omega)
theorem sp_dv {x : Int} {d : Nat} (hd : 0 < d) (h : sp_sp x) : sp_sp (x / (d : Int)) := by
  rcases h with h | h
  · left
    rw [h, Int.zero_ediv]
  · right
    rw [h]
    exact Int.ediv_eq_neg_one_of_neg_of_le (by omega) (by omega)
theorem sp_epH {D y : Int} (hD : 0 < D) (hy : 4 * (y.natAbs : Int) ≤ D) : sp_H (sp_ep D y) := fun k => by
  show sp_sp (sp_ep D y k * y / D / _) ∨ _
  rcases sp_mulq (p := sp_ep D y k) hD hy with q | q
  · exact Or.inl (sp_dv (by omega) q)
  · right
    have h1 := fl_abs (a := sp_ep D y k * y / D) (d := k + 1) (by omega)
    show 2 * (sp_ep D y k * y / D / _).natAbs ≤ _
    omega
theorem sp_suml (p : Nat → Int) : ∀ m, (sp_sum p m).natAbs ≤ sp_ab p m
  | 0 => Nat.le_refl 0
  | m + 1 => by
    have h1 := sp_suml p m
    show (sp_sum p m + p m).natAbs ≤ sp_ab p m + (p m).natAbs
    omega
/-- the parts behind the first one -/
theorem sp_abt (p : Nat → Int) : ∀ m, sp_ab p (m + 1) = (p 0).natAbs + sp_ab (fun k => p (k + 1)) m
  | 0 => by simp [sp_ab]
  | m + 1 => by
    have h1 := sp_abt p m
    show sp_ab p (m + 1) + (p (m + 1)).natAbs = _ + (sp_ab (fun k => p (k + 1)) m + (p (m + 1)).natAbs)
    omega
theorem sp_sumt (p : Nat → Int) : ∀ m, sp_sum p (m + 1) = p 0 + sp_sum (fun k => p (k + 1)) m
  | 0 => by simp [sp_sum]
  | m + 1 => by
    have h1 := sp_sumt p m
    show sp_sum p (m + 1) + p (m + 1) = _ + (sp_sum (fun k => p (k + 1)) m + p (m + 1))
    omega
/-- the sum of the parts lies near the first one -/
theorem sp_near {p : Nat → Int} (h : sp_H p) {m : Nat} (hm : 0 < m) (hu : ∀ j, j < m → ¬ sp_sp (p j)) : (sp_sum p m - p 0).natAbs ≤ 2 * (p 1).natAbs := by
  obtain ⟨k, rfl⟩ : ∃ k, m = k + 1 := ⟨m - 1, by omega⟩
  rw [sp_sumt]
  have h1 := sp_suml (fun k => p (k + 1)) k
  have h2 := sp_abl (p := fun k => p (k + 1)) (fun j => h (j + 1)) (m := k) (fun j hj => hu (j + 1) (by omega))
  have h3 : (p 0 + sp_sum (fun k => p (k + 1)) k - p 0).natAbs = (sp_sum (fun k => p (k + 1)) k).natAbs := by
    congr 1
    omega
  rw [h3]
  exact Nat.le_trans h1 h2
theorem sp_p1 {D y : Int} (hD : 256 ≤ D) (hy : 256 * (y.natAbs : Int) ≤ D) : 256 * ((sp_ep D y 1).natAbs : Int) ≤ D + 256 := by
  have h0 : sp_ep D y 1 = y := by
    show D * y / D / ((1 : Nat) : Int) = y
    rw [Int.mul_ediv_cancel_left _ (by omega)]
    exact Int.ediv_one y
  rw [h0]
  omega
def sp_bf : Nat → Nat
  | 0 => 66560
  | i + 1 => sp_bf i * sp_bf i / 65536 + 1
theorem sp_bf12 : ∀ i, i < 14 → sp_bf i ≤ 2 ^ 200 := by decide +kernel
theorem sp_bf11 : ∀ i, i < 13 → sp_bf i ≤ 2 ^ 110 := by decide +kernel
theorem sp_sqrb {D v : Int} (hD : 0 < D) (h0 : 0 ≤ v) (hv : v * 65536 ≤ D * 66560) : ∀ i, 0 ≤ sp_sqr D v i ∧ sp_sqr D v i * 65536 ≤ D * (sp_bf i : Int)
  | 0 => ⟨h0, hv⟩
  | i + 1 => by
    obtain ⟨h1, h2⟩ := sp_sqrb hD h0 hv i
    show 0 ≤ sp_sqr D v i * sp_sqr D v i / D ∧ sp_sqr D v i * sp_sqr D v i / D * 65536 ≤ D * ((sp_bf i * sp_bf i / 65536 + 1 : Nat) : Int)
    generalize sp_sqr D v i = x at h1 h2 ⊢
    generalize sp_bf i = b at h2 ⊢
    have h3 : 0 ≤ x * x := Int.mul_nonneg h1 h1
    refine ⟨Int.ediv_nonneg h3 (by omega), ?_⟩
    have h4 : x * x / D * D ≤ x * x := Int.ediv_mul_le _ (by omega)
    have h5 : (x * 65536) * (x * 65536) ≤ (D * (b : Int)) * (D * (b : Int)) := Int.mul_le_mul h2 h2 (by omega) (Int.mul_nonneg (by omega) (by omega))
    have h6 : (x * 65536) * (x * 65536) = 4294967296 * (x * x) := by
      rw [Int.mul_assoc, Int.mul_left_comm 65536 x 65536, ← Int.mul_assoc]
      omega
    have h7 : (D * (b : Int)) * (D * (b : Int)) = D * (D * ((b * b : Nat) : Int)) := by
      rw [Int.mul_assoc, Int.mul_left_comm (b : Int) D (b : Int), Int.natCast_mul]
    rw [h6, h7] at h5
    have h8 : D * (4294967296 * (x * x / D)) ≤ D * (D * ((b * b : Nat) : Int)) := by
      rw [Int.mul_left_comm, Int.mul_comm D (x * x / D)]
      omega
    have h9 : 4294967296 * (x * x / D) ≤ D * ((b * b : Nat) : Int) := Int.le_of_mul_le_mul_left h8 hD
    have h10 : ((b * b : Nat) : Int) ≤ 65536 * ((b * b / 65536 + 1 : Nat) : Int) := by omega
    have h11 : D * ((b * b : Nat) : Int) ≤ D * (65536 * ((b * b / 65536 + 1 : Nat) : Int)) := im_p h10 (by omega)
    rw [Int.mul_left_comm] at h11
    omega
/-- how many squarings: the number by 2^n is small -/
theorem sp_cut {t : Int} {Q : Nat} (hQ : 8 ≤ Q) : (t / ((2 ^ (q_bl t.natAbs - (Q - 8)) : Nat) : Int)).natAbs ≤ 2 ^ (Q - 8) := by
  have hb : t.natAbs < 2 ^ q_bl t.natAbs := by
    unfold q_bl
    split
    · rename_i h
      rw [h]
      decide
    · rename_i h
      exact Nat.lt_log2_self
  have hp : (0 : Nat) < 2 ^ (q_bl t.natAbs - (Q - 8)) := Nat.pow_pos (by decide)
  have h1 : t.natAbs < 2 ^ (Q - 8) * 2 ^ (q_bl t.natAbs - (Q - 8)) := by
    rw [← Nat.pow_add]
    exact Nat.lt_of_lt_of_le hb (Nat.pow_le_pow_right (by decide) (by omega))
  generalize 2 ^ (q_bl t.natAbs - (Q - 8)) = d at hp h1 ⊢
  generalize 2 ^ (Q - 8) = M at h1 ⊢
  have h2 := Int.emod_add_mul_ediv t d
  have h3 := Int.emod_nonneg t (show (d : Int) ≠ 0 by omega)
  have h4 := Int.emod_lt_of_pos t (show (0 : Int) < d by omega)
  generalize t / (d : Int) = q at *
  generalize t % (d : Int) = r at *
  have h5 : (t.natAbs : Int) < (M : Int) * d := by
    have := h1
    rw [← Int.natCast_mul]
    omega
  rcases Int.lt_or_le (M : Int) q with a | a
  · exfalso
    have := im_p (c := (d : Int)) (show (M : Int) + 1 ≤ q from a) (by omega)
    rw [Int.mul_add, Int.mul_comm (d : Int) M] at this
    omega
  · rcases Int.lt_or_le q (-(M : Int)) with b | b
    · exfalso
      have := im_p (c := (d : Int)) (show q + 1 ≤ -(M : Int) from b) (by omega)
      rw [Int.mul_add, Int.mul_neg, Int.mul_comm (d : Int) M] at this
      omega
    · omega
