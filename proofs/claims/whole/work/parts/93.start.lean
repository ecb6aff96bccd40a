/-! what the constructors leave is the desk's world, and the model's -/
def aP (i : Nat) : Nat := if i = 0 then 0 else if i = 1 then 3 else if i = 2 then 4 else if i < 15 then 22 + 5 * (i - 3) else if i = 15 then 82 else if i < 19 then 19 + (i - 16) else 85 + (i - 19)
def bP (i : Nat) : Nat := if i = 0 then 1 else if i < 6 then 9 + 2 * (i - 1) else if i = 6 then 5 else if i = 7 then 7 else if i < 20 then 23 + 5 * (i - 8) else if i < 32 then 25 + 5 * (i - 20) else if i = 32 then 83 else 88 + 2 * (i - 33)
theorem aP_lt : ∀ i, i < 22 → aP i < 106 := by decide +kernel
theorem bP_lt : ∀ i, i < 42 → bP i + 1 < 106 := by decide +kernel
theorem aP_inj : ∀ i, i < 22 → ∀ j, j < 22 → aP i = aP j → i = j := by decide +kernel
theorem bP_inj : ∀ i, i < 42 → ∀ j, j < 42 → bP i = bP j → i = j := by decide +kernel
theorem bP_row : ∀ i, i < 42 → ∀ j, j < 42 → bP i + 1 ≠ bP j := by decide +kernel
theorem ab_ne : ∀ i, i < 22 → ∀ j, j < 42 → aP i ≠ bP j ∧ aP i ≠ bP j + 1 := by decide +kernel
theorem bP_pos : ∀ j, j < 42 → bP j ≠ 0 := by decide +kernel
theorem ab_all : ∀ i, i < 106 → (∃ j, j < 42 ∧ i = bP j) ∨ (∃ j, j < 42 ∧ i = bP j + 1) ∨ (∃ j, j < 22 ∧ i = aP j) := by decide +kernel
/-- the position of an address -/
def ix_p (ad : Nat → Nat) (q : Nat) : Nat := ((List.range 106).find? (fun i => decide (ad i = q))).getD 0
theorem ix_pq {ad : Nat → Nat} (hj : ∀ {i j : Nat}, i < 106 → j < 106 → ad i = ad j → i = j) {i : Nat} (hi : i < 106) : ix_p ad (ad i) = i := by
  unfold ix_p
  obtain ⟨k, hk⟩ : ∃ k, (List.range 106).find? (fun k => decide (ad k = ad i)) = some k := by
    cases h : (List.range 106).find? (fun k => decide (ad k = ad i)) with
    | some k => exact ⟨k, rfl⟩
    | none => exact absurd (List.find?_eq_none.mp h i (List.mem_range.mpr hi)) (by simp)
  rw [hk]
  have h1 := List.find?_some hk
  have h2 := List.mem_range.mp (List.mem_of_find?_eq_some hk)
  exact hj h2 hi (of_decide_eq_true h1)
def bk_K (D : va_G) (T : np_T) (ad : Nat → Nat) : Cxt := (D, T, ix_L ad 106, (List.range 42).map (fun i => ad (bP i)), (fun q => ad (ix_p ad q + 1)), (fun q => ad (ix_p ad q - 1)))
section BKST
variable {D : va_G} {T : np_T} {ad : Nat → Nat}
theorem bs_in {i : Nat} (hi : i < 42) : ad (bP i) ∈ bd_N (bk_K D T ad) := List.mem_map.mpr ⟨i, List.mem_range.mpr hi, rfl⟩
theorem bs_of {q : Nat} (h : q ∈ bd_N (bk_K D T ad)) : ∃ i, i < 42 ∧ ad (bP i) = q := by
  obtain ⟨i, hi, rfl⟩ := List.mem_map.mp h
  exact ⟨i, List.mem_range.mp hi, rfl⟩
theorem bs_r (hj : ∀ {i j : Nat}, i < 106 → j < 106 → ad i = ad j → i = j) {i : Nat} (hi : i < 106) : bd_r (bk_K D T ad) (ad i) = ad (i + 1) := by
  show ad (ix_p ad (ad i) + 1) = _
  rw [ix_pq hj hi]
theorem bs_w (hj : ∀ {i j : Nat}, i < 106 → j < 106 → ad i = ad j → i = j) {i : Nat} (hi : i < 106) : bd_w (bk_K D T ad) (ad i) = ad (i - 1) := by
  show ad (ix_p ad (ad i) - 1) = _
  rw [ix_pq hj hi]
theorem bs_y (hj : ∀ {i j : Nat}, i < 106 → j < 106 → ad i = ad j → i = j) : bd_y (bk_K D T ad) := by
  intro b hb
  obtain ⟨i, hi, rfl⟩ := bs_of hb
  have h1 := bP_lt i hi
  rw [bs_r hj (by omega)]
  refine ⟨ix_in (by omega), ix_in h1, fun h => ?_, ?_⟩
  · obtain ⟨j, hj1, hj2⟩ := bs_of h
    have h2 := bP_lt j hj1
    exact bP_row i hi j hj1 (hj (by omega) (by omega) hj2).symm
  · rw [bs_w hj h1]
    rfl
theorem bs_o (hj : ∀ {i j : Nat}, i < 106 → j < 106 → ad i = ad j → i = j) {i : Nat} (hi : i < 22) : bd_o (bk_K D T ad) (ad (aP i)) := by
  have h1 := aP_lt i hi
  refine ⟨fun h => ?_, fun h => ?_⟩
  · obtain ⟨j, hj1, hj2⟩ := bs_of h
    have h2 := bP_lt j hj1
    exact (ab_ne i hi j hj1).1 (hj (by omega) (by omega) hj2).symm
  · rw [bs_w hj h1] at h
    obtain ⟨j, hj1, hj2⟩ := bs_of h.1
    have h2 := bP_lt j hj1
    have h3 := hj (i := bP j) (j := aP i - 1) (by omega) (by omega) hj2
    rcases Nat.eq_zero_or_pos (aP i) with h4 | h4
    · exact bP_pos j hj1 (by omega)
    · exact (ab_ne i hi j hj1).2 (by omega)
end BKST
theorem bp_0 : bP 0 = 1 := rfl
theorem bp_1 {i : Nat} (h1 : 1 ≤ i) (h2 : i < 6) : bP i = 9 + 2 * (i - 1) := by
  unfold bP
  rw [if_neg (by omega), if_pos h2]
theorem bp_8 {i : Nat} (h2 : i < 12) : bP (8 + i) = 23 + 5 * i := by
  unfold bP
  rw [if_neg (by omega), if_neg (by omega), if_neg (by omega), if_neg (by omega), if_pos (by omega)]
  omega
theorem bp_20 {i : Nat} (h2 : i < 12) : bP (20 + i) = 25 + 5 * i := by
  unfold bP
  rw [if_neg (by omega), if_neg (by omega), if_neg (by omega), if_neg (by omega), if_neg (by omega), if_pos (by omega)]
  omega
theorem bp_33 {i : Nat} (h2 : i < 9) : bP (33 + i) = 88 + 2 * i := by
  unfold bP
  rw [if_neg (by omega), if_neg (by omega), if_neg (by omega), if_neg (by omega), if_neg (by omega), if_neg (by omega), if_neg (by omega)]
  omega
theorem ap_3 {i : Nat} (h2 : i < 12) : aP (3 + i) = 22 + 5 * i := by
  unfold aP
  rw [if_neg (by omega), if_neg (by omega), if_neg (by omega), if_pos (by omega)]
  omega
def bs_z (ad : Nat → Nat) (w0 w1 : Wh) (q : Nat) : Wh := if q = ad 1 then w0 else if q = ad 83 then w1 else (0, 0, fun _ => 0)
def bs_sg (ad : Nat → Nat) (v0 v1 : Int) (q : Nat) : Int := if q = ad 1 then v0 else if q = ad 83 then v1 else 0
theorem bs_cell {cA : ClassId} {n : Nat} {g g' : Nat → Option Nat} (h : ∀ j, j < n → g j = g' j) : vp_cell cA (n, .inr (.inr (.inr (.inr g)))) = vp_cell cA (n, .inr (.inr (.inr (.inr g')))) := by
  rw [vp_cell_q, vp_cell_q]
  unfold arrV
  congr 1
  congr 1
  funext j
  show va_rf (g j.val) = va_rf (g' j.val)
  rw [h j.val j.isLt]
theorem pl_k {L : List Nat} {f : Nat → va_E} {k : Nat} {q : Nat × va_E} (h : (va_pl L f)[k]? = some q) : L[k]? = some q.1 ∧ q.2 = f q.1 := by
  unfold va_pl at h
  rw [List.getElem?_map] at h
  cases hk : L[k]? with
  | none => rw [hk] at h; cases h
  | some a => rw [hk] at h; cases h; exact ⟨rfl, rfl⟩
theorem pl_D {A : Nat → Prop} {L : List Nat} {f g : Nat → va_E} (h : va_D A (va_pl L f)) : va_D A (va_pl L g) := by
  have e : ∀ (k : Nat) (q : Nat × va_E), (va_pl L g)[k]? = some q → (va_pl L f)[k]? = some (q.1, f q.1) := fun k q hq => by
    unfold va_pl
    rw [List.getElem?_map, (pl_k hq).1]
    rfl
  exact ⟨fun i j p q hp hq hpq => h.1 i j _ _ (e i p hp) (e j q hq) hpq, fun k q hq => h.2 k (q.1, f q.1) (e k q hq)⟩
theorem pl_P {D : va_G} {cl : List vw_C} {L : List Nat} {f g : Nat → va_E} {H : Heap} (h : va_P D cl (va_pl L f) H) (hfg : ∀ b, b ∈ L → va_at D cl (b, f b) H → va_at D cl (b, g b) H) : va_P D cl (va_pl L g) H := by
  intro k q hq
  obtain ⟨h1, h2⟩ := pl_k hq
  have h3 := hfg q.1 (List.mem_of_getElem? h1) (h k (q.1, f q.1) (by unfold va_pl; rw [List.getElem?_map, h1]; rfl))
  rw [← h2] at h3
  exact h3
/-- a new desk -/
theorem bk_start {D : va_G} {T : np_T} {P : Nat} {ad : Nat → Nat} {f : Nat → va_E} {A : Nat → Prop} {H : Heap} (hP : 16 ≤ P ∧ P ≤ 192) (hw : va_P D vwCl (va_pl (ix_L ad 106) f) H) (hD : va_D A (va_pl (ix_L ad 106) f)) (hX : ix_X4 T P 1 0 ad f) :
    ∃ (K : Cxt) (E : Nat → va_E) (z : Nat → Wh) (a B : Nat → Nat) (sg : Nat → Int), bd_D K = D ∧ K.2.1 = T ∧ bd_L K = ix_L ad 106 ∧ a 0 = ad 0 ∧ bd_y K ∧ bk_at K E P a B ∧ sg_S K z sg ∧ bk_iv P B sg (fun _ => 0) (fun _ => 0) ∧ va_P D vwCl (va_pl (bd_L K) (bd_e K E z)) H ∧ va_D A (va_pl (bd_L K) (bd_e K E z)) := by
  have hj : ∀ {i j : Nat}, i < 106 → j < 106 → ad i = ad j → i = j := fun hi hj h => ix_inj hD hi hj h
  obtain ⟨x0, ⟨w0, n0, y1, y2⟩, x2, x3, x4, x5, x6, x7, ⟨w1, n1, y3, y4⟩, x9, x10⟩ := hX
  have z0 : bs_z ad w0 w1 (ad 1) = w0 := if_pos rfl
  have zx : ∀ i, i < 106 → i ≠ 1 → i ≠ 83 → bs_z ad w0 w1 (ad i) = (0, 0, fun _ => 0) := fun i h1 h2 h3 => by
    unfold bs_z
    rw [if_neg (fun q => h2 (hj h1 (by decide) q)), if_neg (fun q => h3 (hj h1 (by decide) q))]
  have z1 : bs_z ad w0 w1 (ad 83) = w1 := by
    unfold bs_z
    rw [if_neg (fun q => absurd (hj (i := 83) (j := 1) (by decide) (by decide) q) (by decide)), if_pos rfl]
  have sx : ∀ i, i < 106 → i ≠ 1 → i ≠ 83 → bs_sg ad (dk_p (P + 48)) (dk_p (P + 64)) (ad i) = 0 := fun i h1 h2 h3 => by
    unfold bs_sg
    rw [if_neg (fun q => h2 (hj h1 (by decide) q)), if_neg (fun q => h3 (hj h1 (by decide) q))]
  have s0 : bs_sg ad (dk_p (P + 48)) (dk_p (P + 64)) (ad 1) = dk_p (P + 48) := if_pos rfl
  have s1 : bs_sg ad (dk_p (P + 48)) (dk_p (P + 64)) (ad 83) = dk_p (P + 64) := by
    unfold bs_sg
    rw [if_neg (fun q => absurd (hj (i := 83) (j := 1) (by decide) (by decide) q) (by decide)), if_pos rfl]
  -- each number as it lies
  have hnum : ∀ j, j < 42 → f (ad (bP j)) = .inr (3, [.ref (ad (bP j + 1)), .int (nI (bs_z ad w0 w1 (ad (bP j))).1), .int (bs_z ad w0 w1 (ad (bP j))).2.1]) ∧ f (ad (bP j + 1)) = .inl (T.2.1, 24, .inr (.inl (fun i => lN ((bs_z ad w0 w1 (ad (bP j))).2.2 i)))) := by
    intro j hj42
    have hW : ∀ k, k + 1 < 106 → k ≠ 1 → k ≠ 83 → bP j = k → ix_XW T (k + 1) k ad f → f (ad (bP j)) = .inr (3, [.ref (ad (bP j + 1)), .int (nI (bs_z ad w0 w1 (ad (bP j))).1), .int (bs_z ad w0 w1 (ad (bP j))).2.1]) ∧ f (ad (bP j + 1)) = .inl (T.2.1, 24, .inr (.inl (fun i => lN ((bs_z ad w0 w1 (ad (bP j))).2.2 i)))) := by
      intro k hk h1 h83 e hx
      rw [e, zx k (by omega) h1 h83]
      exact hx
    rcases (show j = 0 ∨ (1 ≤ j ∧ j < 6) ∨ j = 6 ∨ j = 7 ∨ (8 ≤ j ∧ j < 20) ∨ (20 ≤ j ∧ j < 32) ∨ j = 32 ∨ (33 ≤ j ∧ j < 42) by omega) with h | h | h | h | h | h | h | h
    · subst h
      show f (ad 1) = _ ∧ f (ad 2) = _
      rw [show bP 0 = 1 from rfl, z0]
      exact ⟨y1, y2⟩
    · have h9 := x4 (j - 1) (by omega)
      rw [show 1 + 8 + 2 * (j - 1) = 9 + 2 * (j - 1) by omega] at h9
      exact hW _ (by omega) (by omega) (by omega) (bp_1 h.1 h.2) h9
    · subst h
      exact hW 5 (by decide) (by decide) (by decide) rfl x3.2.1
    · subst h
      exact hW 7 (by decide) (by decide) (by decide) rfl x3.2.2
    · obtain ⟨k, rfl⟩ : ∃ k, j = 8 + k := ⟨j - 8, by omega⟩
      have h9 := (x6 k (by omega)).2.1
      rw [show 1 + 21 + 5 * k + 1 = 23 + 5 * k by omega] at h9
      exact hW _ (by omega) (by omega) (by omega) (bp_8 (by omega)) h9
    · obtain ⟨k, rfl⟩ : ∃ k, j = 20 + k := ⟨j - 20, by omega⟩
      have h9 := (x6 k (by omega)).2.2
      rw [show 1 + 21 + 5 * k + 1 + 2 = 25 + 5 * k by omega, show 1 + 21 + 5 * k + 1 + 3 = 25 + 5 * k + 1 by omega] at h9
      exact hW _ (by omega) (by omega) (by omega) (bp_20 (by omega)) h9
    · subst h
      show f (ad 83) = _ ∧ f (ad 84) = _
      rw [show bP 32 = 83 from rfl, z1]
      exact ⟨y3, y4⟩
    · obtain ⟨k, rfl⟩ : ∃ k, j = 33 + k := ⟨j - 33, by omega⟩
      have h9 := x10 k (by omega)
      rw [show 1 + 82 + 5 + 2 * k = 88 + 2 * k by omega] at h9
      exact hW _ (by omega) (by omega) (by omega) (bp_33 (by omega)) h9
  obtain ⟨a, ha⟩ : ∃ g, g = fun i => ad (aP i) := ⟨_, rfl⟩
  obtain ⟨B, hB⟩ : ∃ g, g = fun i => ad (bP i) := ⟨_, rfl⟩
  have ea : ∀ i, a i = ad (aP i) := fun i => by rw [ha]
  have eb : ∀ i, B i = ad (bP i) := fun i => by rw [hB]
  obtain ⟨E, hE⟩ : ∃ g, g = va_up f (a 1) (.inl (T.2.2, 12, .inr (.inr (.inr (.inr (fun k => some (a (3 + k)))))))) := ⟨_, rfl⟩
  have e1 : E (a 1) = .inl (T.2.2, 12, .inr (.inr (.inr (.inr (fun k => some (a (3 + k))))))) := by rw [hE]; exact va_up_self _ _ _
  have ex : ∀ i, i < 106 → i ≠ 3 → E (ad i) = f (ad i) := fun i h1 h2 => by
    rw [hE]
    exact va_up_ne _ _ (fun q => h2 (hj h1 (by decide) (q.trans (ea 1))))
  have hin : ∀ i, i < 22 → a i ∈ bd_L (bk_K D T ad) ∧ bd_o (bk_K D T ad) (a i) := fun i hi => by
    rw [ea]
    exact ⟨ix_in (aP_lt i hi), bs_o hj hi⟩
  have hai : ∀ i j, i < 22 → j < 22 → a i = a j → i = j := fun i j hi hj1 q => by
    rw [ea, ea] at q
    exact aP_inj i hi j hj1 (hj (aP_lt i hi) (aP_lt j hj1) q)
  have hbi : ∀ i j, i < 42 → j < 42 → B i = B j → i = j := fun i j hi hj1 q => by
    rw [eb, eb] at q
    have := bP_lt i hi
    have := bP_lt j hj1
    exact bP_inj i hi j hj1 (hj (by omega) (by omega) q)
  have hdv : ∀ i k, i + 2 < 22 → aP i = k → aP (i + 1) = k + 1 → aP (i + 2) = k + 2 → k + 2 < 106 → 3 < k → ix_XD T (k + 1) k ad f → dv_ok (bk_K D T ad) E (a i) (a (i + 1)) (a (i + 2)) := fun i k hi h1 h2 h3 hk hk3 hx => by
    refine ⟨0, 0, fun _ => 0, fun _ => 0, ⟨⟨(hin i (by omega)).1, (hin (i + 1) (by omega)).1, (hin (i + 2) hi).1⟩, ⟨(hin i (by omega)).2, (hin (i + 1) (by omega)).2, (hin (i + 2) hi).2⟩, ⟨fun q => ?_, fun q => ?_, fun q => ?_⟩, ?_, ?_, ?_⟩, fun _ _ => (show (0 : Nat) < 4294967296 by decide), fun _ _ => (show (0 : Nat) < 4294967296 by decide)⟩
    · have := hai _ _ (by omega) (by omega) q; omega
    · have := hai _ _ (by omega) (by omega) q; omega
    · have := hai _ _ (by omega) (by omega) q; omega
    · rw [ea i, ea (i + 1), ea (i + 2), h1, h2, h3, ex k (by omega) (by omega)]
      exact hx.1
    · rw [ea (i + 1), h2, ex (k + 1) (by omega) (by omega)]
      exact hx.2.1
    · rw [ea (i + 2), h3, ex (k + 2) (by omega) (by omega)]
      exact hx.2.2
  refine ⟨bk_K D T ad, E, bs_z ad w0 w1, a, B, bs_sg ad (dk_p (P + 48)) (dk_p (P + 64)), rfl, rfl, rfl, ea 0, bs_y hj, ?_, ?_, ?_, ?_, pl_D hD⟩
  · refine ⟨hin, hai, fun i hi => by rw [eb]; exact bs_in hi, hbi, hP, ?_, e1, ?_, ?_, ?_, ?_, ?_⟩
    · rw [ea 0, show aP 0 = 0 from rfl, ex 0 (by decide) (by decide), x0]
      unfold bk_l
      rw [eb, eb, eb, eb, eb, eb, ea, ea, ea, ea]
      rfl
    · rw [ea 2, show aP 2 = 4 from rfl, ex 4 (by decide) (by decide), eb, eb]
      exact x3.1
    · intro k hk
      rw [ea, ap_3 hk, ex _ (by omega) (by omega), eb, eb, bp_8 hk, bp_20 hk]
      have h9 := (x6 k hk).1
      rw [show 1 + 21 + 5 * k = 22 + 5 * k by omega, show 22 + 5 * k + 1 = 23 + 5 * k by omega, show 23 + 5 * k + 2 = 25 + 5 * k by omega] at h9
      exact h9
    · rw [ea 15, show aP 15 = 82 from rfl, ex 82 (by decide) (by decide), x7]
      unfold fn_l bk_A
      rw [eb, eb, eb, eb, eb, eb, eb, eb, eb, eb, ea]
      rfl
    · exact hdv 16 19 (by decide) rfl rfl rfl (by decide) (by decide) x5
    · exact hdv 19 85 (by decide) rfl rfl rfl (by decide) (by decide) x9
  · intro q hq
    obtain ⟨j, hj42, rfl⟩ := bs_of hq
    have h1 := bP_lt j hj42
    by_cases c1 : bP j = 1
    · rw [c1, z0, s0]
      exact n0
    · by_cases c2 : bP j = 83
      · rw [c2, z1, s1]
        exact n1
      · rw [zx _ (by omega) c1 c2, sx _ (by omega) c1 c2]
        exact bd_n0
  · refine ⟨by rw [eb]; exact s0, ⟨by show bs_sg ad _ _ (B 32) = _; rw [eb]; exact s1, Or.inl (by show bs_sg ad _ _ (B 33) = _; rw [eb]; exact sx 88 (by decide) (by decide) (by decide)), Or.inl (by show bs_sg ad _ _ (B 34) = _; rw [eb]; exact sx 90 (by decide) (by decide) (by decide))⟩, fun k hk => ⟨?_, ?_, Nat.zero_le _, Int.le_refl _, Nat.zero_le _⟩⟩
    · rw [eb, bp_8 hk]
      exact sx _ (by omega) (by omega) (by omega)
    · rw [eb, bp_20 hk]
      exact sx _ (by omega) (by omega) (by omega)
  · refine pl_P hw (fun b hb hat => ?_)
    obtain ⟨i, hi, rfl⟩ := ix_of hb
    rcases ab_all i hi with ⟨j, hj42, rfl⟩ | ⟨j, hj42, rfl⟩ | ⟨j, hj22, rfl⟩
    · rw [bd_eW (bs_in hj42), bs_r hj hi]
      rw [(hnum j hj42).1] at hat
      exact hat
    · have h9 := bd_eR (K := bk_K D T ad) (E := E) (z := bs_z ad w0 w1) (bs_y hj) (bs_in hj42)
      rw [bs_r hj (by omega)] at h9
      rw [h9]
      rw [(hnum j hj42).2] at hat
      exact hat
    · rw [bd_e0 (bs_o hj hj22)]
      by_cases c3 : aP j = 3
      · have e3 : E (ad 3) = .inl (T.2.2, 12, .inr (.inr (.inr (.inr (fun k => some (a (3 + k))))))) := by rw [show ad 3 = a 1 from (ea 1).symm]; exact e1
        rw [c3, e3]
        rw [c3, x2] at hat
        have h9 : H[ad 3]? = some (vp_cell T.2.2 (12, .inr (.inr (.inr (.inr (fun j => if j < 12 then some (ad (1 + 21 + 5 * j)) else none)))))) := hat
        rw [bs_cell (g' := fun k => some (a (3 + k))) (fun j hj12 => by rw [if_pos hj12, ea, ap_3 hj12, show 1 + 21 + 5 * j = 22 + 5 * j by omega])] at h9
        exact h9
      · rw [ex _ (aP_lt j hj22) c3]
        exact hat
