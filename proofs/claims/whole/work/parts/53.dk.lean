/-! WHAT THE DOCUMENT SAYS OF EACH CALL, pure: the places' middles mu and radii ra -/
abbrev dk_T : Type := Int32 × (Nat → Int) × (Nat → Int)
abbrev dk_pl (k : Int32) : Prop := 0 ≤ k.toInt ∧ k.toInt < 12
def dk_ix (k : Int32) : Nat := k.toInt.toNat
def pl_i (k : Int32) : Int32 := if dk_pl k then 1 else 0
theorem pl_f {k : Int32} (h : pl_i k = 0) : ¬ dk_pl k := fun q => by
  unfold pl_i at h
  rw [if_pos q] at h
  exact absurd h (by decide +kernel)
theorem pl_t {k : Int32} (h : ¬ pl_i k = 0) : dk_pl k := by
  unfold pl_i at h
  rcases Classical.em (dk_pl k) with q | q
  · exact q
  · rw [if_neg q] at h
    exact absurd rfl h
theorem pl_x {k : Int32} (h : dk_pl k) : ∃ n : Nat, n < 12 ∧ k = nI n ∧ dk_ix k = n := by
  refine ⟨k.toInt.toNat, by omega, ?_, rfl⟩
  apply Int32.toInt_inj.mp
  rw [nI_toInt (by omega)]
  omega
def dk_keep (P k : Nat) (M R : Int) (mu ra : Nat → Int) : dk_T := if M.natAbs ≤ 2 ^ (P + 48) ∧ 0 ≤ R ∧ R.natAbs ≤ 2 ^ (P + 48) then (1, va_up mu k M, va_up ra k R) else (-1, mu, ra)
def dk_ends (P k : Nat) (l h : Int) (mu ra : Nat → Int) : dk_T := dk_keep P k ((l + h) / ((2 ^ 1 : Nat) : Int)) (h - (l + h) / ((2 ^ 1 : Nat) : Int)) mu ra
abbrev dk_p (n : Nat) : Int := ((2 ^ n : Nat) : Int)
def dk_set (P : Nat) (k : Int32) (x y : Int) (mu ra : Nat → Int) : dk_T := if dk_pl k ∧ 0 < y then dk_keep P (dk_ix k) (x * dk_p P / y) (if x * dk_p P % y = 0 then 0 else 1) mu ra else (-1, mu, ra)
def dk_add (P : Nat) (k i j : Int32) (mu ra : Nat → Int) : dk_T := if dk_pl k ∧ dk_pl i ∧ dk_pl j then dk_keep P (dk_ix k) (mu (dk_ix i) + mu (dk_ix j)) (ra (dk_ix i) + ra (dk_ix j)) mu ra else (-1, mu, ra)
def dk_take (P : Nat) (k i j : Int32) (mu ra : Nat → Int) : dk_T := if dk_pl k ∧ dk_pl i ∧ dk_pl j then dk_keep P (dk_ix k) (mu (dk_ix i) - mu (dk_ix j)) (ra (dk_ix i) + ra (dk_ix j)) mu ra else (-1, mu, ra)
def dk_timesR (P : Nat) (m1 r1 m2 r2 : Int) : Int := -(-(((m1 * r2).natAbs : Int) + ((m2 * r1).natAbs : Int) + r1 * r2) / dk_p P) + 1
def dk_times (P : Nat) (k i j : Int32) (mu ra : Nat → Int) : dk_T := if dk_pl k ∧ dk_pl i ∧ dk_pl j then dk_keep P (dk_ix k) (mu (dk_ix i) * mu (dk_ix j) / dk_p P) (dk_timesR P (mu (dk_ix i)) (ra (dk_ix i)) (mu (dk_ix j)) (ra (dk_ix j))) mu ra else (-1, mu, ra)
def dk_overM (P : Nat) (m1 m2 : Int) : Int := (if m2 < 0 then -m1 else m1) * dk_p P / (m2.natAbs : Int)
def dk_overR (P : Nat) (m1 r1 m2 r2 : Int) : Int := -(-((((m1 * r2).natAbs : Int) + (m2.natAbs : Int) * r1) * dk_p P) / ((m2.natAbs : Int) * ((m2.natAbs : Int) - r2))) + 1
def dk_over (P : Nat) (k i j : Int32) (mu ra : Nat → Int) : dk_T := if (dk_pl k ∧ dk_pl i ∧ dk_pl j) ∧ ra (dk_ix j) < ((mu (dk_ix j)).natAbs : Int) then dk_keep P (dk_ix k) (dk_overM P (mu (dk_ix i)) (mu (dk_ix j))) (dk_overR P (mu (dk_ix i)) (ra (dk_ix i)) (mu (dk_ix j)) (ra (dk_ix j))) mu ra else (-1, mu, ra)
noncomputable def dk_root (P : Nat) (k i : Int32) (mu ra : Nat → Int) : dk_T := if (dk_pl k ∧ dk_pl i) ∧ 0 ≤ mu (dk_ix i) - ra (dk_ix i) then dk_ends P (dk_ix k) (sp_ROOT ((mu (dk_ix i) - ra (dk_ix i)) * dk_p P)) (sp_ROOT ((mu (dk_ix i) + ra (dk_ix i)) * dk_p P) + 1) mu ra else (-1, mu, ra)
def dk_cl (v : Int) : Int := v / dk_p 64 + -1
def dk_ch (v : Int) : Int := v / dk_p 64 + 2
noncomputable def dk_exp (P : Nat) (k i : Int32) (mu ra : Nat → Int) : dk_T := if (dk_pl k ∧ dk_pl i) ∧ -(16 * dk_p P) ≤ mu (dk_ix i) - ra (dk_ix i) ∧ mu (dk_ix i) + ra (dk_ix i) ≤ 16 * dk_p P then dk_ends P (dk_ix k) (if dk_cl (sp_EXP (P + 64) ((mu (dk_ix i) - ra (dk_ix i)) * dk_p 64)) < 0 then 0 else dk_cl (sp_EXP (P + 64) ((mu (dk_ix i) - ra (dk_ix i)) * dk_p 64))) (dk_ch (sp_EXP (P + 64) ((mu (dk_ix i) + ra (dk_ix i)) * dk_p 64))) mu ra else (-1, mu, ra)
noncomputable def dk_log (P : Nat) (k i : Int32) (mu ra : Nat → Int) : dk_T := if (dk_pl k ∧ dk_pl i) ∧ 0 < mu (dk_ix i) - ra (dk_ix i) then dk_ends P (dk_ix k) (dk_cl (sp_LOG (P + 64) ((mu (dk_ix i) - ra (dk_ix i)) * dk_p 64))) (dk_ch (sp_LOG (P + 64) ((mu (dk_ix i) + ra (dk_ix i)) * dk_p 64))) mu ra else (-1, mu, ra)
noncomputable def dk_arc (P : Nat) (k i : Int32) (mu ra : Nat → Int) : dk_T := if dk_pl k ∧ dk_pl i then dk_ends P (dk_ix k) (dk_cl (sp_AT (P + 64) ((mu (dk_ix i) - ra (dk_ix i)) * dk_p 64))) (dk_ch (sp_AT (P + 64) ((mu (dk_ix i) + ra (dk_ix i)) * dk_p 64))) mu ra else (-1, mu, ra)
noncomputable def dk_sinM (P : Nat) (co : Bool) (m : Int) : Int := sp_SIN (P + 64) (if co then m * dk_p 64 + sp_PI (P + 64) / dk_p 1 else m * dk_p 64) / dk_p 64
noncomputable def dk_sine (P : Nat) (k i : Int32) (co : Bool) (mu ra : Nat → Int) : dk_T := if (dk_pl k ∧ dk_pl i) ∧ (mu (dk_ix i)).natAbs ≤ 2 ^ (P + 20) then dk_keep P (dk_ix k) (dk_sinM P co (mu (dk_ix i))) (ra (dk_ix i) + 2) mu ra else (-1, mu, ra)
noncomputable def dk_pi (P : Nat) (k : Int32) (mu ra : Nat → Int) : dk_T := if dk_pl k then dk_keep P (dk_ix k) (sp_PI (P + 64) / dk_p 64) 2 mu ra else (-1, mu, ra)
def dk_widen (P : Nat) (k : Int32) (x : Int) (mu ra : Nat → Int) : dk_T := if dk_pl k ∧ 0 ≤ x then dk_keep P (dk_ix k) (mu (dk_ix k)) (ra (dk_ix k) + x) mu ra else (-1, mu, ra)
def dk_join (P : Nat) (k i j : Int32) (mu ra : Nat → Int) : dk_T := if dk_pl k ∧ dk_pl i ∧ dk_pl j then dk_ends P (dk_ix k) (if mu (dk_ix j) - ra (dk_ix j) < mu (dk_ix i) - ra (dk_ix i) then mu (dk_ix j) - ra (dk_ix j) else mu (dk_ix i) - ra (dk_ix i)) (if mu (dk_ix i) + ra (dk_ix i) < mu (dk_ix j) + ra (dk_ix j) then mu (dk_ix j) + ra (dk_ix j) else mu (dk_ix i) + ra (dk_ix i)) mu ra else (-1, mu, ra)
def dk_liesv (l1 h1 l2 h2 : Int) : Int32 := if h1 < l2 then -2 else if h2 < l1 then 2 else if l1 = l2 ∧ h1 = h2 then 3 else if l2 ≤ l1 ∧ h1 ≤ h2 then 4 else if l1 ≤ l2 ∧ h2 ≤ h1 then 5 else 6
def dk_lies (i j : Int32) (mu ra : Nat → Int) : Int32 := if dk_pl i ∧ dk_pl j then dk_liesv (mu (dk_ix i) - ra (dk_ix i)) (mu (dk_ix i) + ra (dk_ix i)) (mu (dk_ix j) - ra (dk_ix j)) (mu (dk_ix j) + ra (dk_ix j)) else -1
def dk_holds (P : Nat) (k : Int32) (x y : Int) (mu ra : Nat → Int) : Int32 := if dk_pl k ∧ 0 < y then (if (mu (dk_ix k) - ra (dk_ix k)) * y ≤ x * dk_p P ∧ x * dk_p P ≤ (mu (dk_ix k) + ra (dk_ix k)) * y then 1 else 0) else -1
/-- part of a ball: 0 middle, 1 radius, 2 LOW, 3 HIGH -/
def dk_part (t : Nat) (m r : Int) : Int := if t = 0 then m else if t = 1 then r else if t = 2 then m - r else m + r
def dk_digv (P : Nat) (d : Int) (M : Nat) : Nat := if 0 ≤ d then M * 10 ^ d.toNat / 2 ^ P % 10 else M / 2 ^ P / 10 ^ (-d).toNat % 10
def dk_digit (P : Nat) (k d : Int32) (mu : Nat → Int) : Int32 := if dk_pl k ∧ -14 ≤ d.toInt ∧ d.toInt ≤ 60 then nI (dk_digv P d.toInt (mu (dk_ix k)).natAbs) else -1
/-- whether LOW and HIGH agree in d digits -/
def dk_ag (P : Nat) (l h : Int) (d : Nat) : Prop := l * ((10 ^ d : Nat) : Int) / dk_p P = h * ((10 ^ d : Nat) : Int) / dk_p P
/-- how many digits are sure: the first d that doesn't agree, less 1 -/
def dk_surev (P : Nat) (l h : Int) (v : Int32) : Prop := ∃ n : Nat, n ≤ 61 ∧ (∀ d, d < n → dk_ag P l h d) ∧ (n < 61 → ¬ dk_ag P l h n) ∧ v = nI n - nI 1
def dk_mx (P : Nat) (f : Nat → Int) : Nat → Nat
  | 0 => 0
  | n + 1 => max (dk_mx P f n) (q_bl (f n).natAbs)
def dk_count (P : Nat) (k : Int32) (mu ra : Nat → Int) : Int32 := if k = 0 then nI P else if k = 1 then nI (dk_mx P mu 12) else if k = 2 then nI (dk_mx P ra 12) else -1
/-- the numbers at rest -/
def bk_iv (P : Nat) (B : Nat → Nat) (sg : Nat → Int) (mu ra : Nat → Int) : Prop := sg (B 0) = dk_p (P + 48) ∧ fn_iv (P + 64) (bk_A B) sg ∧ ∀ k, k < 12 → sg (B (8 + k)) = mu k ∧ sg (B (20 + k)) = ra k ∧ (mu k).natAbs ≤ 2 ^ (P + 48) ∧ 0 ≤ ra k ∧ (ra k).natAbs ≤ 2 ^ (P + 48)
theorem bk_ivm {P : Nat} {B : Nat → Nat} {sg sg1 : Nat → Int} {mu ra : Nat → Int} (h : bk_iv P B sg mu ra) (ho : ∀ j, (j = 0 ∨ 8 ≤ j) → j < 32 → sg1 (B j) = sg (B j)) (hf : fn_iv (P + 64) (bk_A B) sg1) : bk_iv P B sg1 mu ra := by
  obtain ⟨h1, h2, h3⟩ := h
  refine ⟨by rw [ho 0 (Or.inl rfl) (by decide)]; exact h1, hf, fun k hk => ?_⟩
  obtain ⟨a1, a2, a3⟩ := h3 k hk
  exact ⟨by rw [ho (8 + k) (Or.inr (by omega)) (by omega)]; exact a1, by rw [ho (20 + k) (Or.inr (by omega)) (by omega)]; exact a2, a3⟩
def bk_post (K : Cxt) (P : Nat) (a B : Nat → Nat) (t : dk_T) (r : Int32) (u : bd_U) : Prop := r = t.1 ∧ bk_at K u.1 P a B ∧ ∃ sg1 : Nat → Int, sg_S K u.2 sg1 ∧ bk_iv P B sg1 t.2.1 t.2.2
theorem bk_b {P : Nat} {B : Nat → Nat} {sg : Nat → Int} {mu ra : Nat → Int} (hP : P ≤ 192) (h : bk_iv P B sg mu ra) {k : Nat} (hk : k < 12) : (mu k).natAbs ≤ 2 ^ 240 ∧ 0 ≤ ra k ∧ (ra k).natAbs ≤ 2 ^ 240 := by
  obtain ⟨-, -, a3, a4, a5⟩ := h.2.2 k hk
  have : (2 : Nat) ^ (P + 48) ≤ 2 ^ 240 := Nat.pow_le_pow_right (by decide) (by omega)
  exact ⟨Nat.le_trans a3 this, a4, Nat.le_trans a5 this⟩
