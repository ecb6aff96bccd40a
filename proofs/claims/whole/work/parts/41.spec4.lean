/-! PI, LOG, ATAN, SIN, pure -/
theorem sp_RWx {al : Nat} {D w : Int} (hD : 0 < D) (hw : 2 * (w.natAbs : Int) ≤ D) : ∃ m, sp_end (sp_pr D (w * w / D) w) m ∧ sp_RW al D w = sp_row al (sp_pr D (w * w / D) w) m ∧ sp_H (sp_pr D (w * w / D) w) := by
  obtain ⟨h1, h2⟩ := sp_sq hD hw
  have hH := sp_prH (w := w) hD h1 h2
  obtain ⟨m, -, he⟩ := sp_ex hH (N := w.natAbs) (show w.natAbs < 2 ^ w.natAbs from Nat.lt_two_pow_self)
  exact ⟨m, he, (sp_RWe ⟨m, he, rfl⟩).symm, hH⟩
theorem sp_RWb {al : Nat} {D w : Int} (hD : 0 < D) (hw : 2 * (w.natAbs : Int) ≤ D) : (sp_RW al D w).natAbs ≤ 2 * w.natAbs := by
  obtain ⟨m, he, h1, hH⟩ := sp_RWx (al := al) hD hw
  rw [h1]
  exact Nat.le_trans (sp_rowl al _ m) (sp_abl hH he.2)
theorem sp_rown {al : Nat} {p : Nat → Int} (hp : ∀ j, 0 ≤ p j) : ∀ m, 3 * (sp_row al p (m + 1) - p 0).natAbs ≤ sp_ab (fun k => p (k + 1)) m
  | 0 => by
    show 3 * ((if al = 1 ∧ 0 % 2 = 1 then _ else 0 + p 0 / ((1 : Nat) : Int)) - p 0).natAbs ≤ 0
    rw [if_neg (by omega), show ((1 : Nat) : Int) = 1 from rfl, Int.ediv_one]
    omega
  | m + 1 => by
    have h1 := sp_rown (al := al) hp m
    have h2 : 0 ≤ p (m + 1) / ((2 * (m + 1) + 1 : Nat) : Int) := Int.ediv_nonneg (hp _) (by omega)
    have h3 : p (m + 1) / ((2 * (m + 1) + 1 : Nat) : Int) * ((2 * (m + 1) + 1 : Nat) : Int) ≤ p (m + 1) := Int.ediv_mul_le _ (by omega)
    have h4 : p (m + 1) / ((2 * (m + 1) + 1 : Nat) : Int) * 3 ≤ p (m + 1) / ((2 * (m + 1) + 1 : Nat) : Int) * ((2 * (m + 1) + 1 : Nat) : Int) := Int.mul_le_mul_of_nonneg_left (by omega) h2
    show 3 * ((if al = 1 ∧ (m + 1) % 2 = 1 then sp_row al p (m + 1) - p (m + 1) / ((2 * (m + 1) + 1 : Nat) : Int) else sp_row al p (m + 1) + p (m + 1) / ((2 * (m + 1) + 1 : Nat) : Int)) - p 0).natAbs ≤ sp_ab (fun k => p (k + 1)) m + (p (m + 1)).natAbs
    have h5 := hp (m + 1)
    generalize p (m + 1) / ((2 * (m + 1) + 1 : Nat) : Int) = d at *
    generalize sp_row al p (m + 1) = r at *
    split <;> omega
theorem sp_prp {D s w : Int} (hD : 0 < D) (hs : 0 ≤ s) (hw : 0 ≤ w) : ∀ j, 0 ≤ sp_pr D s w j
  | 0 => hw
  | j + 1 => Int.ediv_nonneg (Int.mul_nonneg (sp_prp hD hs hw j) hs) (by omega)
/-- a row whose first part is at most a fifth lies near it -/
theorem sp_RWn {al : Nat} {D w : Int} (hD : 0 < D) (h0 : 0 ≤ w) (hw : 5 * w ≤ D) : 75 * (sp_RW al D w - w).natAbs ≤ 2 * w.natAbs := by
  obtain ⟨m, he, h1, hH⟩ := sp_RWx (al := al) hD (show 2 * (w.natAbs : Int) ≤ D by omega)
  rw [h1]
  have hs0 : 0 ≤ w * w / D := Int.ediv_nonneg (Int.mul_nonneg h0 h0) (by omega)
  have hp := sp_prp (D := D) (s := w * w / D) (w := w) hD hs0 h0
  have hs : 25 * (w * w / D) ≤ D := by
    have a1 : w * w / D * D ≤ w * w := Int.ediv_mul_le _ (by omega)
    have a2 : (5 * w) * (5 * w) ≤ D * D := Int.mul_le_mul hw hw (by omega) (by omega)
    have a3 : (5 * w) * (5 * w) = 25 * (w * w) := by
      rw [Int.mul_assoc, Int.mul_left_comm w 5 w]
      omega
    rw [a3] at a2
    have a4 : (25 * (w * w / D)) * D ≤ D * D := by rw [Int.mul_assoc]; omega
    exact Int.le_of_mul_le_mul_right a4 hD
  have hp1 : 25 * sp_pr D (w * w / D) w 1 ≤ w := by
    show 25 * (w * (w * w / D) / D) ≤ w
    generalize w * w / D = s at hs hs0
    have a1 : w * s / D * D ≤ w * s := Int.ediv_mul_le _ (by omega)
    have a2 : w * (25 * s) ≤ w * D := Int.mul_le_mul_of_nonneg_left hs h0
    have a3 : w * (25 * s) = 25 * (w * s) := Int.mul_left_comm _ _ _
    rw [a3] at a2
    have a4 : (25 * (w * s / D)) * D ≤ w * D := by rw [Int.mul_assoc]; omega
    exact Int.le_of_mul_le_mul_right a4 hD
  have hp10 := hp 1
  have h00 : sp_pr D (w * w / D) w 0 = w := rfl
  rcases Nat.eq_zero_or_pos m with q | q
  · rw [q] at he ⊢
    show 75 * ((0 : Int) - w).natAbs ≤ _
    rcases he.1 with r | r
    · rw [h00] at r
      omega
    · rw [h00] at r
      omega
  · obtain ⟨k, rfl⟩ : ∃ k, m = k + 1 := ⟨m - 1, by omega⟩
    have h2 := sp_rown (al := al) hp k
    have h3 := sp_abl (p := fun k => sp_pr D (w * w / D) w (k + 1)) (fun j => hH (j + 1)) (m := k) (fun j hj => he.2 (j + 1) (by omega))
    rw [h00] at h2
    have h4 : sp_ab (fun k => sp_pr D (w * w / D) w (k + 1)) k ≤ 2 * (sp_pr D (w * w / D) w 1).natAbs := h3
    omega
noncomputable def sp_PI (Q : Nat) : Int := sp_RW 1 ((2 ^ Q : Nat) : Int) (((2 ^ Q : Nat) : Int) / 5) * 16 - sp_RW 1 ((2 ^ Q : Nat) : Int) (((2 ^ Q : Nat) : Int) / 239) * 4
noncomputable def sp_L2 (Q : Nat) : Int := sp_RW 0 ((2 ^ Q : Nat) : Int) (((2 ^ Q : Nat) : Int) / 3) * 2
theorem sp_PIb {Q : Nat} (hQ : 80 ≤ Q) : 3 * ((2 ^ Q : Nat) : Int) ≤ sp_PI Q ∧ 5 * sp_PI Q ≤ 17 * ((2 ^ Q : Nat) : Int) := by
  have hp80 : (2 : Nat) ^ 80 ≤ 2 ^ Q := Nat.pow_le_pow_right (by decide) hQ
  unfold sp_PI
  have hD : (1208925819614629174706176 : Int) ≤ ((2 ^ Q : Nat) : Int) := by omega
  generalize ((2 ^ Q : Nat) : Int) = D at *
  have h1 := sp_RWn (al := 1) (D := D) (w := D / 5) (by omega) (by omega) (by omega)
  have h2 := sp_RWb (al := 1) (D := D) (w := D / 239) (by omega) (by omega)
  generalize sp_RW 1 D (D / 5) = a at *
  generalize sp_RW 1 D (D / 239) = b at *
  omega
def fn_iv (Q : Nat) (A : Nat → Nat) (sg : Nat → Int) : Prop := sg (A 1) = ((2 ^ Q : Nat) : Int) ∧ (sg (A 2) = 0 ∨ sg (A 2) = sp_PI Q) ∧ (sg (A 3) = 0 ∨ sg (A 3) = sp_L2 Q)
theorem fn_ivm {Q : Nat} {A : Nat → Nat} {sg sg1 : Nat → Int} (h : fn_iv Q A sg) (h1 : sg1 (A 1) = sg (A 1)) (h2 : sg1 (A 2) = sg (A 2)) (h3 : sg1 (A 3) = sg (A 3)) : fn_iv Q A sg1 := by
  unfold fn_iv
  rw [h1, h2, h3]
  exact h
/-- LOG -/
noncomputable def sp_lgw (Q : Nat) (t : Int) : Int := (t * ((2 ^ (Q + 2 - q_bl (t * 3).natAbs) : Nat) : Int) - ((2 ^ (Q + (q_bl (t * 3).natAbs - (Q + 2))) : Nat) : Int)) * ((2 ^ Q : Nat) : Int) / (t * ((2 ^ (Q + 2 - q_bl (t * 3).natAbs) : Nat) : Int) + ((2 ^ (Q + (q_bl (t * 3).natAbs - (Q + 2))) : Nat) : Int))
noncomputable def sp_LOG (Q : Nat) (t : Int) : Int := sp_RW 0 ((2 ^ Q : Nat) : Int) (sp_lgw Q t) * 2 + sp_L2 Q * ((q_bl (t * 3).natAbs : Int) - Q - 2)
/-- both numbers of a logarithm lie near each other -/
theorem sp_lgn {Q : Nat} {t : Int} (ht : 0 < t) : 2 * ((2 ^ (Q + (q_bl (t * 3).natAbs - (Q + 2))) : Nat) : Int) ≤ 3 * (t * ((2 ^ (Q + 2 - q_bl (t * 3).natAbs) : Nat) : Int)) ∧ 3 * (t * ((2 ^ (Q + 2 - q_bl (t * 3).natAbs) : Nat) : Int)) < 4 * ((2 ^ (Q + (q_bl (t * 3).natAbs - (Q + 2))) : Nat) : Int) := by
  obtain ⟨T, rfl⟩ : ∃ T : Nat, t = (T : Int) := ⟨t.toNat, by omega⟩
  have hT : ((T : Int) * 3).natAbs = T * 3 := by omega
  rw [hT]
  have h1 := q_bl_lt (T * 3)
  obtain ⟨h2, h3⟩ := q_bl_ge (v := T * 3) (by omega)
  generalize q_bl (T * 3) = b at *
  rw [← Int.natCast_mul]
  rcases Nat.lt_or_ge b (Q + 2) with q | q
  · rw [show Q + (b - (Q + 2)) = Q by omega]
    obtain ⟨k, rfl⟩ : ∃ k, b = k + 1 := ⟨b - 1, by omega⟩
    rw [Nat.add_sub_cancel] at h3
    obtain ⟨j, rfl⟩ : ∃ j, Q = k + j := ⟨Q - k, by omega⟩
    rw [show k + j + 2 - (k + 1) = j + 1 by omega, Nat.pow_succ 2 j, Nat.pow_add 2 k j]
    rw [Nat.pow_succ] at h1
    have h4 := Nat.mul_le_mul_right (2 ^ j) h3
    have h5 := Nat.mul_lt_mul_of_pos_right h1 (show 0 < 2 ^ j from Nat.pow_pos (by decide))
    rw [Nat.mul_right_comm] at h4 h5
    rw [Nat.mul_right_comm (2 ^ k) 2] at h5
    rw [← Nat.mul_assoc T]
    omega
  · rw [show Q + 2 - b = 0 by omega, show Q + (b - (Q + 2)) = b - 2 by omega, Nat.pow_zero, Nat.mul_one]
    obtain ⟨k, rfl⟩ : ∃ k, b = k + 2 := ⟨b - 2, by omega⟩
    rw [show k + 2 - 1 = k + 1 by omega, Nat.pow_succ] at h3
    rw [Nat.pow_succ, Nat.pow_succ] at h1
    rw [Nat.add_sub_cancel]
    omega
theorem sp_quo {a b D : Int} (hb : 0 < b) (h1 : 2 * b ≤ 3 * a) (h2 : 3 * a < 4 * b) (hD : 100 ≤ D) : 2 * (((a - b) * D / (a + b)).natAbs : Int) ≤ D := by
  have hs : 0 < a + b := by omega
  have e1 := Int.emod_add_mul_ediv ((a - b) * D) (a + b)
  have e2 := Int.emod_nonneg ((a - b) * D) (show a + b ≠ 0 by omega)
  have e3 := Int.emod_lt_of_pos ((a - b) * D) hs
  generalize (a - b) * D / (a + b) = q at *
  generalize (a - b) * D % (a + b) = r at *
  have h3 : (a - b) * D * 5 ≤ (a + b) * D := by
    have := Int.mul_le_mul_of_nonneg_right (show (a - b) * 5 ≤ a + b by omega) (show 0 ≤ D by omega)
    rw [Int.mul_right_comm] at this
    exact this
  have h4 : -((a + b) * D) ≤ (a - b) * D * 5 := by
    have := Int.mul_le_mul_of_nonneg_right (show -(a + b) ≤ (a - b) * 5 by omega) (show 0 ≤ D by omega)
    rw [Int.mul_right_comm, Int.neg_mul] at this
    exact this
  generalize (a - b) * D = X at *
  generalize a + b = S at *
  have h5 : q * 5 ≤ D := by
    have : S * (q * 5) ≤ S * D := by rw [← Int.mul_assoc]; omega
    exact Int.le_of_mul_le_mul_left this hs
  have h6 : -(D + 5) ≤ q * 5 := by
    have : S * (-(D + 5)) ≤ S * (q * 5) := by
      rw [← Int.mul_assoc, Int.mul_neg, Int.mul_add]
      omega
    exact Int.le_of_mul_le_mul_left this hs
  omega
theorem sp_lgb {Q : Nat} {t : Int} (ht : 0 < t) (hQ : 80 ≤ Q) : 2 * ((sp_lgw Q t).natAbs : Int) ≤ ((2 ^ Q : Nat) : Int) := by
  have hp80 : (2 : Nat) ^ 80 ≤ 2 ^ Q := Nat.pow_le_pow_right (by decide) hQ
  obtain ⟨h1, h2⟩ := sp_lgn (Q := Q) ht
  refine sp_quo ?_ h1 h2 (by omega)
  have : 0 < 2 ^ (Q + (q_bl (t * 3).natAbs - (Q + 2))) := Nat.pow_pos (by decide)
  omega
/-- half an arc -/
noncomputable def sp_HV (Q : Nat) (t : Int) : Int := t * ((2 ^ Q : Nat) : Int) / (sp_ROOT (t * t + ((2 ^ (2 * Q) : Nat) : Int)) + ((2 ^ Q : Nat) : Int))
theorem sp_pw2 (Q : Nat) : 2 ^ (2 * Q) = 2 ^ Q * 2 ^ Q := by rw [Nat.two_mul, Nat.pow_add]
theorem sp_rtge {Q : Nat} {t : Int} : ((2 ^ Q : Nat) : Int) ≤ sp_ROOT (t * t + ((2 ^ (2 * Q) : Nat) : Int)) := by
  obtain ⟨k, h1, h2⟩ := sp_ROOTx (t * t + ((2 ^ (2 * Q) : Nat) : Int))
  rw [h2]
  have h0 : 0 ≤ t * t := by
    rcases Int.lt_or_le t 0 with q | q
    · have := Int.mul_nonneg (show 0 ≤ -t by omega) (show 0 ≤ -t by omega)
      rw [Int.neg_mul_neg] at this
      exact this
    · exact Int.mul_nonneg q q
  have h3 := sp_root_le (k := 2 ^ Q) h1 (by rw [← sp_pw2]; omega)
  omega
theorem sp_HVb {Q : Nat} {t : Int} (h0 : 0 ≤ t) : 0 ≤ sp_HV Q t ∧ 2 * sp_HV Q t ≤ t := by
  have h1 := sp_rtge (Q := Q) (t := t)
  have hp : 0 < 2 ^ Q := Nat.pow_pos (by decide)
  unfold sp_HV
  generalize sp_ROOT (t * t + ((2 ^ (2 * Q) : Nat) : Int)) = r at *
  have hD : (0 : Int) < ((2 ^ Q : Nat) : Int) := by omega
  generalize ((2 ^ Q : Nat) : Int) = D at *
  refine ⟨Int.ediv_nonneg (Int.mul_nonneg h0 (by omega)) (by omega), ?_⟩
  have h2 : t * D / (r + D) * (r + D) ≤ t * D := Int.ediv_mul_le _ (by omega)
  have h3 : 0 ≤ t * D / (r + D) := Int.ediv_nonneg (Int.mul_nonneg h0 (by omega)) (by omega)
  generalize t * D / (r + D) = q at *
  have h4 : q * (2 * D) ≤ q * (r + D) := Int.mul_le_mul_of_nonneg_left (by omega) h3
  have h5 : (2 * q) * D ≤ t * D := by
    rw [Int.mul_comm 2 q, Int.mul_assoc]
    omega
  exact Int.le_of_mul_le_mul_right h5 hD
noncomputable def sp_AP (Q : Nat) (t : Int) : Int := if ((2 ^ Q : Nat) : Int) < t then sp_PI Q / ((2 ^ 1 : Nat) : Int) - sp_RW 1 ((2 ^ Q : Nat) : Int) (sp_HV Q (sp_HV Q (sp_HV Q (((2 ^ (2 * Q) : Nat) : Int) / t)))) * ((2 ^ 3 : Nat) : Int) else sp_RW 1 ((2 ^ Q : Nat) : Int) (sp_HV Q (sp_HV Q (sp_HV Q t))) * ((2 ^ 3 : Nat) : Int)
noncomputable def sp_AT (Q : Nat) (t : Int) : Int := if t < 0 then -sp_AP Q (t.natAbs : Int) else sp_AP Q (t.natAbs : Int)
/-- the parts of a sine -/
def sn_p (D s y : Int) : Nat → Int
  | 0 => y
  | j + 1 => -(sn_p D s y j * s / D / ((2 * (j + 1) * (2 * (j + 1) + 1) : Nat) : Int))
def sn_end (p : Nat → Int) (m : Nat) : Prop := p m = 0 ∧ ∀ j, j < m → p j ≠ 0
theorem sn_uniq {p : Nat → Int} {m k : Nat} (h1 : sn_end p m) (h2 : sn_end p k) : m = k := by
  rcases Nat.lt_trichotomy m k with q | q | q
  · exact absurd h1.1 (h2.2 m q)
  · exact q
  · exact absurd h2.1 (h1.2 k q)
def sn_H (p : Nat → Int) : Prop := ∀ j, 2 * (p (j + 1)).natAbs ≤ (p j).natAbs + 1 ∧ (p j = 1 → p (j + 1) = 0) ∧ (p j ≤ 0 → 0 ≤ p (j + 1))
theorem sn_step {p s D : Int} {d : Nat} (hD : 0 < D) (hs0 : 0 ≤ s) (hs : s ≤ 3 * D) (hd : 6 ≤ d) : 2 * (-(p * s / D / (d : Int))).natAbs ≤ p.natAbs + 1 ∧ (p = 1 → -(p * s / D / (d : Int)) = 0) ∧ (p ≤ 0 → 0 ≤ -(p * s / D / (d : Int))) := by
  have hdp : (0 : Int) < d := by omega
  have b1 : p * s / D / (d : Int) * d ≤ p * s / D := Int.ediv_mul_le _ (by omega)
  have b2 : p * s / D < (p * s / D / (d : Int) + 1) * d := Int.lt_ediv_add_one_mul_self _ hdp
  have a1 : p * s / D * D ≤ p * s := Int.ediv_mul_le _ (by omega)
  have a2 : p * s < (p * s / D + 1) * D := Int.lt_ediv_add_one_mul_self _ hD
  rcases Int.lt_or_le p 0 with q | q
  · -- below 0: 3 p ≤ a ≤ 0
    have c1 : p * (3 * D) ≤ p * s := Int.mul_le_mul_of_nonpos_left (by omega) hs
    have c2 : p * s ≤ 0 := Int.mul_nonpos_of_nonpos_of_nonneg (by omega) hs0
    have c3 : 3 * p ≤ p * s / D := by
      refine Int.le_ediv_of_mul_le hD ?_
      rw [Int.mul_comm 3 p, Int.mul_assoc]
      exact c1
    have c4 : p * s / D ≤ 0 := by
      have : p * s / D * D ≤ 0 * D := by omega
      exact Int.le_of_mul_le_mul_right this hD
    generalize p * s / D = a at *
    have c5 : a / (d : Int) ≤ 0 := by
      have : a / (d : Int) * d ≤ 0 * (d : Int) := by omega
      exact Int.le_of_mul_le_mul_right this hdp
    generalize a / (d : Int) = k at *
    refine ⟨?_, fun r => absurd r (by omega), fun _ => by omega⟩
    rcases Int.lt_or_le k 0 with r | r
    · -- (-k - 1) d < -a ≤ -3p
      have c6 : (-(k + 1)) * 6 ≤ (-(k + 1)) * (d : Int) := Int.mul_le_mul_of_nonneg_left (by omega) (by omega)
      rw [Int.neg_mul, Int.neg_mul] at c6
      omega
    · omega
  · have c1 : p * s ≤ p * (3 * D) := Int.mul_le_mul_of_nonneg_left hs q
    have c2 : 0 ≤ p * s := Int.mul_nonneg q hs0
    have c3 : p * s / D ≤ 3 * p := by
      have : p * s / D * D ≤ (3 * p) * D := by
        rw [Int.mul_comm 3 p, Int.mul_assoc]
        omega
      exact Int.le_of_mul_le_mul_right this hD
    have c4 : 0 ≤ p * s / D := Int.ediv_nonneg c2 (by omega)
    have c5 : 0 ≤ p * s / D / (d : Int) := Int.ediv_nonneg c4 (by omega)
    generalize p * s / D = a at *
    generalize a / (d : Int) = k at *
    have c6 : k * 6 ≤ k * (d : Int) := Int.mul_le_mul_of_nonneg_left (by omega) c5
    refine ⟨by omega, fun r => by omega, fun r => ?_⟩
    omega
theorem sn_pH {D s y : Int} (hD : 0 < D) (hs0 : 0 ≤ s) (hs : s ≤ 3 * D) : sn_H (sn_p D s y) := fun j => by
  refine sn_step (p := sn_p D s y j) (d := 2 * (j + 1) * (2 * (j + 1) + 1)) hD hs0 hs ?_
  have := Nat.mul_le_mul (show 2 ≤ 2 * (j + 1) by omega) (show 3 ≤ 2 * (j + 1) + 1 by omega)
  omega
theorem sn_ex0 {p : Nat → Int} (h : sn_H p) : ∀ (N j : Nat), (p j).natAbs ≤ 2 ^ N → ∃ m, j ≤ m ∧ m ≤ j + N + 2 ∧ p m = 0 ∧ ∀ i, j ≤ i → i < m → p i ≠ 0
  | 0, j, hj => by
    have hj : (p j).natAbs ≤ 1 := hj
    rcases Classical.em (p j = 0) with q | q
    · exact ⟨j, Nat.le_refl j, by omega, q, fun i h1 h2 => absurd h1 (by omega)⟩
    · obtain ⟨h1, h2, h3⟩ := h j
      rcases Classical.em (p (j + 1) = 0) with r | r
      · refine ⟨j + 1, by omega, by omega, r, fun i a b => ?_⟩
        rw [show i = j by omega]
        exact q
      · have hm : p j = -1 := by
          rcases Classical.em (p j = 1) with t | t
          · exact absurd (h2 t) r
          · omega
        have h4 := h3 (by omega)
        refine ⟨j + 2, by omega, by omega, (h (j + 1)).2.1 (by omega), fun i a b => ?_⟩
        rcases (show i = j ∨ i = j + 1 by omega) with rfl | rfl
        · exact q
        · exact r
  | N + 1, j, hj => by
    rcases Classical.em (p j = 0) with q | q
    · exact ⟨j, Nat.le_refl j, by omega, q, fun i h1 h2 => absurd h1 (by omega)⟩
    · obtain ⟨m, h1, h2, h3, h4⟩ := sn_ex0 h N (j + 1) (by have := (h j).1; rw [Nat.pow_succ] at hj; omega)
      refine ⟨m, by omega, by omega, h3, fun i a b => ?_⟩
      by_cases c : i = j
      · rw [c]
        exact q
      · exact h4 i (by omega) b
theorem sn_ex {p : Nat → Int} (h : sn_H p) {N : Nat} (h0 : (p 0).natAbs ≤ 2 ^ N) : ∃ m, m ≤ N + 2 ∧ sn_end p m := by
  obtain ⟨m, -, h2, h3, h4⟩ := sn_ex0 h N 0 h0
  exact ⟨m, by omega, h3, fun j hj => h4 j (Nat.zero_le j) hj⟩
theorem sn_le {p : Nat → Int} (h : sn_H p) : ∀ j, (p j).natAbs ≤ (p 0).natAbs
  | 0 => Nat.le_refl _
  | j + 1 => by
    have h1 := sn_le h j
    have h2 := (h j).1
    omega
theorem sn_sum {p : Nat → Int} (h : sn_H p) : ∀ j, (sp_sum p j).natAbs ≤ j * (p 0).natAbs
  | 0 => Nat.le_of_eq (Nat.zero_mul _).symm
  | j + 1 => by
    have h1 := sn_sum h j
    have h2 := sn_le h j
    show (sp_sum p j + p j).natAbs ≤ (j + 1) * _
    rw [Nat.add_mul]
    omega
/-- SIN -/
noncomputable def sn_n (Q : Nat) (t : Int) : Int := (t * 2 + sp_PI Q) / (sp_PI Q * 2)
noncomputable def sn_y (Q : Nat) (t : Int) : Int := t - sn_n Q t * sp_PI Q
def sp_sn (Q : Nat) (t v : Int) : Prop := ∃ m, sn_end (sn_p ((2 ^ Q : Nat) : Int) (sn_y Q t * sn_y Q t / ((2 ^ Q : Nat) : Int)) (sn_y Q t)) m ∧ v = if (sn_n Q t).natAbs % 2 = 1 then -sp_sum (sn_p ((2 ^ Q : Nat) : Int) (sn_y Q t * sn_y Q t / ((2 ^ Q : Nat) : Int)) (sn_y Q t)) m else sp_sum (sn_p ((2 ^ Q : Nat) : Int) (sn_y Q t * sn_y Q t / ((2 ^ Q : Nat) : Int)) (sn_y Q t)) m
noncomputable def sp_SIN (Q : Nat) (t : Int) : Int := Classical.epsilon (sp_sn Q t)
theorem sp_SINe {Q : Nat} {t v : Int} (h : sp_sn Q t v) : v = sp_SIN Q t := ep_eq h (fun a b ⟨m, h1, h2⟩ ⟨k, h3, h4⟩ => by rw [h2, h4, sn_uniq h1 h3])
theorem sn_yb {Q : Nat} (t : Int) (hQ : 80 ≤ Q) : 2 * ((sn_y Q t).natAbs : Int) ≤ sp_PI Q := by
  have hp80 : (2 : Nat) ^ 80 ≤ 2 ^ Q := Nat.pow_le_pow_right (by decide) hQ
  obtain ⟨h1, h2⟩ := sp_PIb hQ
  unfold sn_y sn_n
  generalize sp_PI Q = P at *
  have e1 := Int.emod_add_mul_ediv (t * 2 + P) (P * 2)
  have e2 := Int.emod_nonneg (t * 2 + P) (show P * 2 ≠ 0 by omega)
  have e3 := Int.emod_lt_of_pos (t * 2 + P) (show 0 < P * 2 by omega)
  generalize (t * 2 + P) / (P * 2) = n at *
  generalize (t * 2 + P) % (P * 2) = r at *
  rw [Int.mul_right_comm, Int.mul_comm P n] at e1
  omega
theorem sn_sb {y D P : Int} (hD : 0 < D) (hy : 2 * (y.natAbs : Int) ≤ P) (hP : 5 * P ≤ 17 * D) : 0 ≤ y * y / D ∧ y * y / D ≤ 3 * D := by
  have h0 : y * y = (y.natAbs : Int) * (y.natAbs : Int) := by
    rcases Int.natAbs_eq y with q | q
    · rw [← q]
    · conv => lhs; rw [q]
      rw [Int.neg_mul_neg]
  rw [h0]
  have hn : (0 : Int) ≤ y.natAbs := by omega
  generalize (y.natAbs : Int) = a at *
  have h1 : 0 ≤ a * a := Int.mul_nonneg hn hn
  refine ⟨Int.ediv_nonneg h1 (by omega), ?_⟩
  have h2 : a * a / D * D ≤ a * a := Int.ediv_mul_le _ (by omega)
  have h3 : (10 * a) * (10 * a) ≤ (17 * D) * (17 * D) := Int.mul_le_mul (by omega) (by omega) (by omega) (by omega)
  have h4 : (10 * a) * (10 * a) = 100 * (a * a) := by
    rw [Int.mul_assoc, Int.mul_left_comm a 10 a]
    omega
  have h5 : (17 * D) * (17 * D) = 289 * (D * D) := by
    rw [Int.mul_assoc, Int.mul_left_comm D 17 D]
    omega
  rw [h4, h5] at h3
  have h6 : 0 ≤ D * D := Int.mul_nonneg (by omega) (by omega)
  have h7 : a * a / D * D ≤ (3 * D) * D := by rw [Int.mul_assoc]; omega
  exact Int.le_of_mul_le_mul_right h7 hD
