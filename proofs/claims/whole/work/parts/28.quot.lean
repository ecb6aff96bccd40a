/-! THE QUOTIENT, pure -/
theorem dq_sh {n : Nat} {f : Nat → Nat} (h0 : 0 < n) (hn : n ≤ 24) (hf : q_r f) (ht : bd_tp n f) : q_bl (q_s f n) ≤ n * 32 ∧ n * 32 - q_bl (q_s f n) < 32 ∧ f (n - 1) * 2 ^ (n * 32 - q_bl (q_s f n)) < 4294967296 ∧ 2147483648 ≤ f (n - 1) * 2 ^ (n * 32 - q_bl (q_s f n)) := by
  have h1 := q_bl_top h0 (q_r_ok hf hn) ht
  have ht1 := ht h0
  have h2 := q_log32 (Nat.pos_of_ne_zero ht1) (hf (n - 1) (by omega))
  obtain ⟨a1, a2⟩ := (Nat.log2_eq_iff ht1).mp rfl
  have h3 : n * 32 - q_bl (q_s f n) = 31 - (f (n - 1)).log2 := by omega
  rw [h3]
  refine ⟨by omega, by omega, ?_, ?_⟩
  · have h4 := Nat.mul_lt_mul_of_pos_right a2 (Nat.pow_pos (n := 31 - (f (n - 1)).log2) (show 0 < 2 by decide))
    rw [← Nat.pow_add, show (f (n - 1)).log2 + 1 + (31 - (f (n - 1)).log2) = 32 by omega] at h4
    exact h4
  · have h4 := Nat.mul_le_mul_right (2 ^ (31 - (f (n - 1)).log2)) a1
    rw [← Nat.pow_add, show (f (n - 1)).log2 + (31 - (f (n - 1)).log2) = 31 by omega] at h4
    exact h4
theorem dq_V {n s : Nat} {f G : Nat → Nat} (h0 : 0 < n) (hn : n ≤ 24) (hf : q_r f) (hs : s < 32) (h1 : f (n - 1) * 2 ^ s < 4294967296) (h2 : 2147483648 ≤ f (n - 1) * 2 ^ s) (hG : ∀ j, j < n → G j = q_rs n f s (j : Int)) : q_s G n = q_s f n * 2 ^ s ∧ 2147483648 ≤ G (n - 1) := by
  have h3 := q_rs_s (s := s) hf hn (by omega) n
  have hc : q_at n f ((n : Int) - 1) / 2 ^ (32 - s) = 0 := by
    rw [show (n : Int) - 1 = ((n - 1 : Nat) : Int) by omega, bd_at_in (by omega), ← q_up32 (by omega)]
    exact Nat.div_eq_of_lt h1
  rw [hc, Nat.zero_mul, Nat.add_zero, q_pd_s (Nat.le_refl n)] at h3
  refine ⟨by rw [q_cg hG]; exact h3, ?_⟩
  rw [hG (n - 1) (by omega)]
  unfold q_rs
  rw [bd_at_in (by omega)]
  have h4 := q_lo32 (s := s) (by omega) (q_at_lt hf hn (((n - 1 : Nat) : Int) - 1))
  generalize q_at n f (((n - 1 : Nat) : Int) - 1) / 2 ^ (32 - s) = x at h4
  have h5 : f (n - 1) * 2 ^ s + x < 4294967296 := by
    have h6 : 4294967296 = 2 ^ s * 2 ^ (32 - s) := (q_ps32 (by omega)).symm
    have h7 : f (n - 1) < 2 ^ (32 - s) := by
      rw [h6, Nat.mul_comm] at h1
      exact Nat.lt_of_mul_lt_mul_left h1
    have h8 : (f (n - 1) + 1) * 2 ^ s ≤ 2 ^ (32 - s) * 2 ^ s := Nat.mul_le_mul_right _ h7
    rw [Nat.mul_comm (2 ^ (32 - s)), ← h6, Nat.add_mul, Nat.one_mul] at h8
    omega
  rw [Nat.mod_eq_of_lt h5]
  omega
theorem dq_N {n s : Nat} {f F : Nat → Nat} (hn : n ≤ 24) (hf : q_r f) (hs : s < 32) (hF : ∀ j, j < n + 1 → F j = q_rs n f s (j : Int)) : q_s F (n + 1) = q_s f n * 2 ^ s := by
  have h3 := q_rs_s (s := s) hf hn (by omega) (n + 1)
  rw [show (((n + 1 : Nat) : Int) - 1) = (n : Int) by omega, q_at_pd n, q_pd_out (Nat.le_refl n), Nat.zero_div, Nat.zero_mul, Nat.add_zero, q_pd_s (by omega)] at h3
  rw [q_cg hF]
  exact h3
/-- at first what is on top is less than the divisor -/
theorem dq_top {na nb s : Nat} {fa fb F : Nat → Nat} (hfa : q_ok fa na) (hb0 : 0 < nb) (htb : bd_tp nb fb) (hF : q_s F (na + 1) = q_s fa na * 2 ^ s) (hFo : q_ok F (na + 1)) : q_s (fun i => F (na + 1 - nb + i)) (min nb (na + 1 - (na + 1 - nb))) < q_s fb nb * 2 ^ s := by
  have h1 := q_lt hfa
  have h2 := q_tple hb0 htb
  have hp : 0 < 2 ^ s := Nat.pow_pos (by decide)
  have hV : 4294967296 ^ (nb - 1) * 2 ^ s ≤ q_s fb nb * 2 ^ s := Nat.mul_le_mul_right _ h2
  have hN : q_s F (na + 1) < 4294967296 ^ na * 2 ^ s := by
    rw [hF]
    exact Nat.mul_lt_mul_of_pos_right h1 hp
  rcases Nat.lt_or_ge (na + 1) nb with q | q
  · rw [show na + 1 - nb = 0 by omega, show min nb (na + 1 - 0) = na + 1 by omega]
    simp only [Nat.zero_add]
    have h3 : 4294967296 ^ na * 2 ^ s ≤ 4294967296 ^ (nb - 1) * 2 ^ s := Nat.mul_le_mul_right _ (Nat.pow_le_pow_right (by decide) (by omega))
    show q_s F (na + 1) < _
    omega
  · rw [show min nb (na + 1 - (na + 1 - nb)) = nb by omega]
    have h3 := q_sp (g := F) (na + 1 - nb) nb
    rw [show na + 1 - nb + nb = na + 1 by omega] at h3
    have h4 : 4294967296 ^ na * 2 ^ s = 4294967296 ^ (na + 1 - nb) * (4294967296 ^ (nb - 1) * 2 ^ s) := by
      rw [← Nat.mul_assoc, ← Nat.pow_add]
      congr 2
      omega
    rw [h4, h3] at hN
    have h5 : 4294967296 ^ (na + 1 - nb) * q_s (fun i => F (na + 1 - nb + i)) nb < 4294967296 ^ (na + 1 - nb) * (4294967296 ^ (nb - 1) * 2 ^ s) := by omega
    have h6 := Nat.lt_of_mul_lt_mul_left h5
    omega
/-- one limb of the quotient more -/
theorem dq_step {I F F1 r : Nat → Nat} {nb fl k V v : Nat} (hk : 0 < k) (hkl : k + nb ≤ fl) (hV : V = v) (hlow : ∀ i, i < k → F i = I i) (hhi : ∀ i, k + nb ≤ i → i < fl → F i = 0) (hinv : q_s (fun i => I (k + i)) (fl - k) = V * q_s (fun i => r (k + i)) (fl - nb - k) + q_s (fun i => F (k + i)) nb) (hT : q_s (fun i => F (k + i)) nb < V) (hVB : V < 4294967296 ^ nb)
    (hF1 : q_ok F1 fl) (hun : ∀ i, (i < k - 1 ∨ k - 1 + nb < i) → F1 i = F i) (hW1 : q_s (fun i => F1 (k - 1 + i)) (nb + 1) = q_s (fun i => F (k - 1 + i)) (nb + 1) % V) :
    q_s (fun i => F (k - 1 + i)) (nb + 1) = I (k - 1) + 4294967296 * q_s (fun i => F (k + i)) nb ∧ (∀ i, i < k - 1 → F1 i = I i) ∧ (∀ i, k - 1 + nb ≤ i → i < fl → F1 i = 0) ∧ q_s (fun i => I (k - 1 + i)) (fl - (k - 1)) = V * (q_s (fun i => F (k - 1 + i)) (nb + 1) / V + 4294967296 * q_s (fun i => r (k + i)) (fl - nb - k)) + q_s (fun i => F1 (k - 1 + i)) nb ∧ q_s (fun i => F1 (k - 1 + i)) nb < V := by
  obtain ⟨j, rfl⟩ : ∃ j, k = j + 1 := ⟨k - 1, by omega⟩
  rw [Nat.add_sub_cancel] at *
  have hVp : 0 < V := by omega
  have hw : q_s (fun i => F (j + i)) (nb + 1) = I j + 4294967296 * q_s (fun i => F (j + 1 + i)) nb := by
    rw [q_hd]
    show F (j + 0) + _ = _
    rw [Nat.add_zero, hlow j (by omega)]
    congr 2
    exact q_cg (fun i _ => congrArg F (by omega))
  have hlt := Nat.mod_lt (q_s (fun i => F (j + i)) (nb + 1)) hVp
  have htop : F1 (j + nb) = 0 := by
    rcases Nat.eq_zero_or_pos (F1 (j + nb)) with q | q
    · exact q
    · have h1 := q_top (g := fun i => F1 (j + i)) (n := nb) q
      omega
  have hT1 : q_s (fun i => F1 (j + i)) nb = q_s (fun i => F (j + i)) (nb + 1) % V := by
    rw [← hW1]
    show _ = q_s (fun i => F1 (j + i)) nb + F1 (j + nb) * _
    rw [htop, Nat.zero_mul, Nat.add_zero]
  refine ⟨hw, fun i hi => (hun i (Or.inl hi)).trans (hlow i (by omega)), fun i h1 h2 => ?_, ?_, by rw [hT1]; exact hlt⟩
  · by_cases q : i = j + nb
    · rw [q]
      exact htop
    · rw [hun i (Or.inr (by omega))]
      exact hhi i (by omega) h2
  · have h1 : q_s (fun i => I (j + i)) (fl - j) = I j + 4294967296 * q_s (fun i => I (j + 1 + i)) (fl - (j + 1)) := by
      rw [show fl - j = (fl - (j + 1)) + 1 by omega, q_hd]
      show I (j + 0) + _ = _
      rw [Nat.add_zero]
      congr 2
      exact q_cg (fun i _ => congrArg I (by omega))
    have h2 := Nat.div_add_mod (q_s (fun i => F (j + i)) (nb + 1)) V
    rw [h1, hinv, hT1]
    rw [← hw.symm.trans rfl] at *
    generalize q_s (fun i => F (j + i)) (nb + 1) = W at *
    rw [Nat.mul_add V, Nat.mul_left_comm V 4294967296]
    rw [Nat.mul_add]
    omega
theorem dq_end {a b s q r : Nat} (h : a * 2 ^ s = b * 2 ^ s * q + r) (hr : r < b * 2 ^ s) : q = a / b ∧ (r = 0 ↔ a % b = 0) := by
  have hp : 0 < 2 ^ s := Nat.pow_pos (by decide)
  have hb : 0 < b := by
    rcases Nat.eq_zero_or_pos b with z | z
    · rw [z, Nat.zero_mul] at hr
      omega
    · exact z
  have h1 : q = a * 2 ^ s / (b * 2 ^ s) := by
    rw [h, Nat.mul_add_div (Nat.mul_pos hb hp), Nat.div_eq_of_lt hr, Nat.add_zero]
  have h2 : r = a * 2 ^ s % (b * 2 ^ s) := by rw [h, Nat.mul_add_mod, Nat.mod_eq_of_lt hr]
  rw [Nat.mul_div_mul_right _ _ hp] at h1
  rw [Nat.mul_mod_mul_right] at h2
  refine ⟨h1, ?_⟩
  rw [h2]
  constructor
  · intro h3
    rcases Nat.mul_eq_zero.mp h3 with z | z
    · exact z
    · omega
  · intro h3
    rw [h3, Nat.zero_mul]
