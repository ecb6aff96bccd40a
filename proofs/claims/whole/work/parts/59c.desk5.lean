/-! BallDesk: digit, sure, count (laid by wip/gen/m_desk7.py) -/
theorem ng_t {t : Nat} (h : t < 2 ^ 30) : (-(nI t)).toInt = -(t : Int) := by
  rw [Int32.toInt_neg, nI_toInt (by omega), Int.bmod_eq_of_le (by omega) (by omega)]
theorem ng_le {t m : Nat} (h1 : t < 2 ^ 30) (h2 : m < 2 ^ 30) (h : -(nI t) ≤ -(nI m)) : m ≤ t := by
  have := Int32.le_iff_toInt_le.mp h
  rw [ng_t h1, ng_t h2] at this
  omega
theorem ng_nle {t m : Nat} (h1 : t < 2 ^ 30) (h2 : m < 2 ^ 30) (h : ¬ -(nI t) ≤ -(nI m)) : t < m := by
  rcases Nat.lt_or_ge t m with q | q
  · exact q
  · exact absurd (Int32.le_iff_toInt_le.mpr (by rw [ng_t h1, ng_t h2]; omega)) h
theorem ng_le0 {m : Nat} (h2 : m < 2 ^ 30) : -(nI m) ≤ nI 0 := Int32.le_iff_toInt_le.mpr (by rw [ng_t h2, nI_toInt (by decide)]; omega)
theorem ng_1 (t : Nat) : -(nI t) + Int32.ofInt (-1) = -(nI (t + 1)) := by
  rw [← nI_1 t, Int32.neg_add, Int32.sub_eq_add_neg, show Int32.ofInt (-1) = (-1 : Int32) by decide]
theorem dg_cs {d : Int32} (h1 : -14 ≤ d.toInt) (h2 : d.toInt ≤ 60) : (∃ n : Nat, n ≤ 60 ∧ d = nI n) ∨ (∃ n : Nat, 1 ≤ n ∧ n ≤ 14 ∧ d = -(nI n)) := by
  rcases Int.lt_or_le d.toInt 0 with q | q
  · refine Or.inr ⟨(-d.toInt).toNat, by omega, by omega, ?_⟩
    apply Int32.toInt_inj.mp
    rw [ng_t (by omega)]
    omega
  · refine Or.inl ⟨d.toInt.toNat, by omega, ?_⟩
    apply Int32.toInt_inj.mp
    rw [nI_toInt (by omega)]
    omega
theorem n10 : (nI 10).toInt = 10 := by decide +kernel
theorem dg_0 {M : Nat} : (M : Int) = ((M * 10 ^ 0 : Nat) : Int) := by rw [Nat.pow_zero, Nat.mul_one]
theorem dg_1 {M : Nat} : (M : Int) = ((M / 10 ^ 0 : Nat) : Int) := by rw [Nat.pow_zero, Nat.div_one]
theorem p10_b {t : Nat} (h : t ≤ 60) : 10 ^ t ≤ 2 ^ 200 := Nat.le_trans (Nat.pow_le_pow_right (by decide) h) (by decide +kernel)
theorem dg_b {M t : Nat} (h : M ≤ 2 ^ 240) (ht : t ≤ 60) : ((M * 10 ^ t : Nat) : Int).natAbs * (nI 10).toInt.natAbs < 4294967296 ^ 24 := by
  rw [n10, Int.natAbs_natCast]
  exact Nat.lt_of_le_of_lt (Nat.mul_le_mul_right _ (Nat.mul_le_mul h (p10_b ht))) (by decide +kernel)
theorem dg_m {M t : Nat} : ((M * 10 ^ t : Nat) : Int) * (nI 10).toInt = ((M * 10 ^ (t + 1) : Nat) : Int) := by
  rw [n10, Nat.pow_succ, ← Nat.mul_assoc, Int.natCast_mul (M * 10 ^ t)]
  rfl
theorem dg_d {M t : Nat} : ((M / 10 ^ t : Nat) : Int) / ((10 : Nat) : Int) = ((M / 10 ^ (t + 1) : Nat) : Int) := by
  rw [Nat.pow_succ, ← Nat.div_div_eq_div_mul, Int.natCast_ediv]
  rfl
theorem dg_s {M : Nat} (h : M ≤ 2 ^ 240) : (M : Int).natAbs + 1 < 4294967296 ^ 24 := by
  rw [Int.natAbs_natCast]
  exact Nat.lt_of_le_of_lt (Nat.add_le_add_right h 1) (by decide +kernel)
theorem dg_s2 {M P t : Nat} (h : M ≤ 2 ^ 240) (ht : t ≤ 60) : ((M * 10 ^ t / 2 ^ P : Nat) : Int).natAbs + 1 < 4294967296 ^ 24 := by
  rw [Int.natAbs_natCast]
  exact Nat.lt_of_le_of_lt (Nat.add_le_add_right (Nat.le_trans (Nat.div_le_self _ _) (Nat.mul_le_mul h (p10_b ht))) 1) (by decide +kernel)
theorem dg_va {P kn t : Nat} {mu : Nat → Int} (h : dk_pl (nI kn)) (hx : dk_ix (nI kn) = kn) (ht : t ≤ 60) : dk_digit P (nI kn) (nI t) mu = nI ((mu kn).natAbs * 10 ^ t / 2 ^ P % 10) := by
  unfold dk_digit
  have h9 : (nI t).toInt = (t : Int) := nI_toInt (by omega)
  rw [h9, if_pos ⟨h, by omega, by omega⟩, hx]
  unfold dk_digv
  rw [if_pos (by omega), Int.toNat_natCast]
theorem dg_vb {P kn m : Nat} {mu : Nat → Int} (h : dk_pl (nI kn)) (hx : dk_ix (nI kn) = kn) (h1 : 1 ≤ m) (h2 : m ≤ 14) : dk_digit P (nI kn) (-(nI m)) mu = nI ((mu kn).natAbs / 2 ^ P / 10 ^ m % 10) := by
  unfold dk_digit
  have h9 : (-(nI m)).toInt = -(m : Int) := ng_t (by omega)
  rw [h9, if_pos ⟨h, by omega, by omega⟩, hx]
  unfold dk_digv
  rw [if_neg (by omega), Int.neg_neg, Int.toNat_natCast]
noncomputable def dk_SURE (P : Nat) (l h : Int) : Int32 := Classical.epsilon (dk_surev P l h)
noncomputable def dk_sure (P : Nat) (k : Int32) (mu ra : Nat → Int) : Int32 := if dk_pl k then dk_SURE P (mu (dk_ix k) - ra (dk_ix k)) (mu (dk_ix k) + ra (dk_ix k)) else -2
theorem su_one {P : Nat} {l h : Int} {v1 v2 : Int32} (h1 : dk_surev P l h v1) (h2 : dk_surev P l h v2) : v1 = v2 := by
  obtain ⟨n, a1, a2, a3, a4⟩ := h1
  obtain ⟨n2, b1, b2, b3, b4⟩ := h2
  have : n = n2 := by
    rcases Nat.lt_trichotomy n n2 with q | q | q
    · exact absurd (b2 n q) (a3 (by omega))
    · exact q
    · exact absurd (a2 n2 q) (b3 (by omega))
  rw [a4, b4, this]
theorem su_E {P : Nat} {l h : Int} {v : Int32} (h1 : dk_surev P l h v) : dk_SURE P l h = v := su_one (Classical.epsilon_spec ⟨v, h1⟩) h1
theorem dk_sureq {P kn : Nat} {mu ra : Nat → Int} {v : Int32} (hp : dk_pl (nI kn)) (hx : dk_ix (nI kn) = kn) (h : dk_surev P (mu kn - ra kn) (mu kn + ra kn) v) : dk_sure P (nI kn) mu ra = v := by
  unfold dk_sure
  rw [if_pos hp, hx]
  exact su_E h
theorem su_0 {x : Int} : x = x * ((10 ^ 0 : Nat) : Int) := by rw [Nat.pow_zero]; omega
theorem su_s {P t : Nat} {x y : Int} (h : ∀ q, q < t → dk_ag P x y q) (h1 : dk_ag P x y t) : ∀ q, q < t + 1 → dk_ag P x y q := fun q hq => by
  rcases Nat.lt_or_ge q t with r | r
  · exact h q r
  · rw [show q = t by omega]
    exact h1
theorem su_m {x : Int} {t : Nat} : x * ((10 ^ t : Nat) : Int) * (nI 10).toInt = x * ((10 ^ (t + 1) : Nat) : Int) := by
  rw [n10, Nat.pow_succ, Int.natCast_mul, Int.mul_assoc]
  rfl
theorem su_b {x : Int} {t : Nat} (h : x.natAbs ≤ 2 ^ 241) (ht : t ≤ 60) : (x * ((10 ^ t : Nat) : Int)).natAbs * (nI 10).toInt.natAbs < 4294967296 ^ 24 := by
  rw [n10, Int.natAbs_mul, Int.natAbs_natCast]
  exact Nat.lt_of_le_of_lt (Nat.mul_le_mul_right _ (Nat.mul_le_mul h (p10_b ht))) (by decide +kernel)
theorem mx_q {x : Nat} (h : x ≤ 2 ^ 240) : q_bl x ≤ 241 := by
  unfold q_bl
  split
  · omega
  · rename_i h0
    have := (Nat.log2_lt h0).mpr (Nat.lt_of_le_of_lt h (show (2 : Nat) ^ 240 < 2 ^ 241 by decide +kernel))
    omega
theorem mx_b {P : Nat} {f : Nat → Int} (N : Nat) (h : ∀ j, j < N → (f j).natAbs ≤ 2 ^ 240) : ∀ n, n ≤ N → dk_mx P f n ≤ 241 := by
  intro n
  induction n with
  | zero => intro _; exact Nat.zero_le _
  | succ n ih =>
    intro hn
    show max (dk_mx P f n) (q_bl (f n).natAbs) ≤ 241
    exact Nat.max_le.mpr ⟨ih (by omega), mx_q (h n (by omega))⟩
set_option maxHeartbeats 4000000 in
set_option maxRecDepth 100000 in
/-- BallDesk.digit -/
theorem c4_digit (l : Launch) (K : Cxt) (E0 : Nat → va_E) (z0 : Nat → Wh) (sz : Nat) {P : Nat} {a B : Nat → Nat} (hbk : bk_at K E0 P a B) {sg0 : Nat → Int} (hS : sg_S K z0 sg0) {mu ra : Nat → Int} (hiv : bk_iv P B sg0 mu ra) (k d : Int32)  : Met l yX4_digit wsX4_digit ({ frames := 7, cells := 0, slots := 0, locals := 240 }) (va_Pc [.ref (a 0), .int k, .int d] (bd_P K E0 z0 sz)) (va_Qi (bk_post K P a B (dk_digit P k d mu, mu, ra)) (bd_B K) (bd_A K sz)) 0 0 (bd_A K sz) := by
  refine bd_ofW (cc := cX4_digit) (maxL := 4) (ret := (some .int)) (by decide) rfl (Nat.le_of_ble_eq_true rfl) ?_
  intro p e s m below meth c ls C hr hlk hsz hw hl
  have hx := C.1
  have hb := C.2.1
  have hown := C.2.2.2.1
  have hts := C.2.2.2.2.1
  have i4 : ∀ w ∈ wsX40, w ∈ wsX4_digit := by decide +kernel
  have ib0 : ∀ w ∈ wsX00, w ∈ wsX4_digit := by decide +kernel
  have lk33 : Cond.fieldLink RX4 33 "BallDesk" "left" "LBallDesk$Whole;" ∈ wsX4_digit := by decide +kernel
  have lk18 : Cond.fieldLink RX4 18 "BallDesk" "places" "[LBallDesk$Ball;" ∈ wsX4_digit := by decide +kernel
  have lk85 : Cond.fieldLink RX4 85 "BallDesk$Ball" "middle" "LBallDesk$Whole;" ∈ wsX4_digit := by decide +kernel
  have lk58 : Cond.fieldLink RX4 58 "BallDesk" "bits" "I" ∈ wsX4_digit := by decide +kernel
  obtain ⟨hP1, hP2⟩ := bk_P hbk
  have hl : lv_has ls 4 [(0, .ref (a 0)), (1, .int k), (2, .int d)] := hl
  have hof : ∀ j, (j = 0 ∨ 8 ≤ j) → j < 32 → sg0 (B j) = sg0 (B j) := fun _ _ _ => rfl
  have hfi := hiv.2.1
  refine lv_iload_n hx hb dX4_digit_0 rfl (lv_at hl 1 rfl) ?_
  refine bd_sip (As := [.int k]) (rest := []) C (c4_isPlace _ _ _ _ _ k) (va_cwS 1 hts gX4_digit_X4_isPlace rfl rfl rfl (by decide +kernel) ⟨Nat.le_of_ble_eq_true rfl, Nat.le_of_ble_eq_true rfl⟩) hsz hw dX4_digit_1 rfl hl.1 rfl (Nat.le_of_ble_eq_true rfl) ⟨Nat.le_refl _, Nat.le_refl _⟩ (fun H locs hw => ?_)
  refine lv_if_eq (tgt := 19) hx hb dX4_digit_4 (by decide) (fun hc4 => ?_) (fun hc4 => ?_)
  · have hno := pl_f hc4
    refine lv_iconst (v := (-1)) hx hb dX4_digit_19 (by decide) ?_
    have hd : dk_digit P k d mu = (-1) := if_neg (fun q => hno q.1)
    exact bd_iret C hr hlk hw dX4_digit_20 ⟨hd.symm, hbk, sg0, hS, bk_ivm hiv hof hfi⟩
  · have hpl_kn := pl_t hc4
    obtain ⟨kn, hkn, hk_kn, hx_kn⟩ := pl_x hpl_kn
    subst hk_kn
    refine lv_iload_n hx hb dX4_digit_7 rfl (lv_at hl 2 rfl) ?_
    refine lv_bipush (v := nI 60) hx hb dX4_digit_8 (by decide) ?_
    refine lv_icmp_gt (tgt := 19) hx hb dX4_digit_10 (by decide) (fun hc10 => ?_) (fun hc10 => ?_)
    · have hno : ¬ d.toInt ≤ 60 := Int.not_le.mpr (Int32.lt_iff_toInt_lt.mp hc10)
      refine lv_iconst (v := (-1)) hx hb dX4_digit_19 (by decide) ?_
      have hd : dk_digit P (nI kn) d mu = (-1) := if_neg (fun q => hno q.2.2)
      exact bd_iret C hr hlk hw dX4_digit_20 ⟨hd.symm, hbk, sg0, hS, bk_ivm hiv hof hfi⟩
    · have hd60 : d.toInt ≤ 60 := Int.not_lt.mp (fun q => hc10 (Int32.lt_iff_toInt_lt.mpr q))
      refine lv_iload_n hx hb dX4_digit_13 rfl (lv_at hl 2 rfl) ?_
      refine lv_bipush (v := (-14)) hx hb dX4_digit_14 (by decide) ?_
      refine lv_icmp_ge (tgt := 21) hx hb dX4_digit_16 (by decide) (fun hc16 => ?_) (fun hc16 => ?_)
      · have hd14 : -14 ≤ d.toInt := Int32.le_iff_toInt_le.mp hc16
        obtain ⟨hbm_kn, hb0_kn, hbr_kn⟩ := bk_b hP2 hiv hkn
        rcases dg_cs hd14 hd60 with ⟨dn, hdn, hde⟩ | ⟨dm, hdm1, hdm2, hde⟩
        · subst hde
          refine lv_aload_n hx hb dX4_digit_21 rfl (lv_at hl 0 rfl) ?_
          refine bk_g C i4 hw hbk 6 (by decide) (v := .ref (B 3)) rfl dX4_digit_22 lk33 ?_
          refine lv_aload_n hx hb dX4_digit_25 rfl (lv_at hl 0 rfl) ?_
          refine bk_g C i4 hw hbk 2 (by decide) (v := .ref (a 1)) rfl dX4_digit_26 lk18 ?_
          refine lv_iload_n hx hb dX4_digit_29 rfl (lv_at hl 1 rfl) ?_
          refine bk_ald C hw hbk hkn dX4_digit_30 ?_
          refine bl_gm C ib0 hw (bk_pl hbk (k := kn) hkn) dX4_digit_31 lk85 ?_
          have fm_kn : sg0 (B (8 + kn)) = mu kn := (hof (8 + kn) (by omega) (by omega)).trans (hiv.2.2 kn hkn).1
          refine sv_v (As := [.ref (B (8 + kn))]) (rest := []) C (v3_become_ _ _ _ _ _ hS (B 3) (B (8 + kn)) (bk_in hbk (i := 3) (by omega)) (bk_in hbk (i := (8 + kn)) (by omega))) (cwV 1 hts gX4_digit_X3_become_ rfl rfl rfl (by decide +kernel) ⟨Nat.le_of_ble_eq_true rfl, Nat.le_of_ble_eq_true rfl⟩) hsz hw (bd_recv C hw (bk_in hbk (i := 3) (by omega))) dX4_digit_34 rfl hl.1 rfl (Nat.le_of_ble_eq_true rfl) ⟨Nat.le_refl _, Nat.le_refl _⟩ (fun z sg H locs hv9 hf9 hS hw => ?_)
          have fT9 : sg (B 3) = mu kn := hv9.trans (by exact fm_kn)
          have f_3 := fT9
          have hof : ∀ j, (j = 0 ∨ 8 ≤ j) → j < 32 → sg (B j) = sg0 (B j) := fun j h1 h2 => (hf9 (B j) (bk_ne hbk (i := j) (j := 3) (by omega) (by omega) (by omega))).trans (hof j h1 h2)
          have hfi : fn_iv (P + 64) (bk_A B) sg := fn_ivm hfi (hf9 (bk_A B 1) (bk_ne hbk (i := 31 + 1) (j := 3) (by decide) (by decide) (by decide))) (hf9 (bk_A B 2) (bk_ne hbk (i := 31 + 2) (j := 3) (by decide) (by decide) (by decide))) (hf9 (bk_A B 3) (bk_ne hbk (i := 31 + 3) (j := 3) (by decide) (by decide) (by decide)))
          refine lv_aload_n hx hb dX4_digit_37 rfl (lv_at hl 0 rfl) ?_
          refine bk_g C i4 hw hbk 6 (by decide) (v := .ref (B 3)) rfl dX4_digit_38 lk33 ?_
          refine sv_v (As := []) (rest := []) C (v3_dropSign _ _ _ _ _ hS (B 3) (bk_in hbk (i := 3) (by omega))) (cwV 0 hts gX4_digit_X3_dropSign rfl rfl rfl (by decide +kernel) ⟨Nat.le_of_ble_eq_true rfl, Nat.le_of_ble_eq_true rfl⟩) hsz hw (bd_recv C hw (bk_in hbk (i := 3) (by omega))) dX4_digit_41 rfl hl.1 rfl (Nat.le_of_ble_eq_true rfl) ⟨Nat.le_refl _, Nat.le_refl _⟩ (fun z sg H locs hv9 hf9 hS hw => ?_)
          have fT9 : sg (B 3) = (((mu kn).natAbs : Nat) : Int) := hv9.trans (by rw [f_3])
          have f_3 := fT9
          have hof : ∀ j, (j = 0 ∨ 8 ≤ j) → j < 32 → sg (B j) = sg0 (B j) := fun j h1 h2 => (hf9 (B j) (bk_ne hbk (i := j) (j := 3) (by omega) (by omega) (by omega))).trans (hof j h1 h2)
          have hfi : fn_iv (P + 64) (bk_A B) sg := fn_ivm hfi (hf9 (bk_A B 1) (bk_ne hbk (i := 31 + 1) (j := 3) (by decide) (by decide) (by decide))) (hf9 (bk_A B 2) (bk_ne hbk (i := 31 + 2) (j := 3) (by decide) (by decide) (by decide))) (hf9 (bk_A B 3) (bk_ne hbk (i := 31 + 3) (j := 3) (by decide) (by decide) (by decide)))
          refine lv_iconst (v := nI 0) hx hb dX4_digit_44 (by decide) ?_
          refine lv_istore_n (lv' := [(3, .int (nI 0)), (0, .ref (a 0)), (1, .int (nI kn)), (2, .int (nI dn))]) hx hb dX4_digit_45 rfl hl (by decide) rfl (fun ls hl => ?_)
          suffices hloop : ∀ (d9 t : Nat) (z : Nat → Wh) (sg : Nat → Int) (ls : Array Slot) (H : Heap) (locs : List Loc), t + d9 = dn → sg_S K z sg → (sg (B 3) = (((mu kn).natAbs * 10 ^ t : Nat) : Int)) → (∀ j, (j = 0 ∨ 8 ≤ j) → j < 32 → sg (B j) = sg0 (B j)) → fn_iv (P + 64) (bk_A B) sg → lv_has ls 4 [(3, .int (nI t)), (0, .ref (a 0)), (1, .int (nI kn)), (2, .int (nI dn))] → bd_W K E0 z (bd_A K sz) s.heap H locs → W p l e (headSpec wsX4_digit ({ frames := 7, cells := 0, slots := 0, locals := 240 })).room s m [.ref (a 0), .int (nI kn), .int (nI dn)].toArray below meth c H locs 0 0 (MQ below (va_Qi (bk_post K P a B (dk_digit P (nI kn) (nI dn) mu, mu, ra)) (bd_B K) (bd_A K sz)) [.ref (a 0), .int (nI kn), .int (nI dn)].toArray s 0 0 (bd_A K sz)) (F0 m 46 ls []) from hloop dn 0 z sg ls H locs (by omega) hS (f_3.trans dg_0) hof hfi (lv_sub hl [0, 1, 2, 3] rfl) hw
          clear hw hl ls hof hfi hS f_3
          intro d9
          induction d9 using Nat.strongRecOn with
          | ind d9 ih =>
            intro t z sg ls H locs hjd hS f_3 hof hfi hl hw
            refine lv_iload_n hx hb dX4_digit_46 rfl (lv_at hl 0 rfl) ?_
            refine lv_iload_n hx hb dX4_digit_47 rfl (lv_at hl 3 rfl) ?_
            refine bd_ige (h1 := (by omega)) (h2 := (by omega)) (tgt := 66) hx hb dX4_digit_48 (by decide) (fun hc48 => ?_) (fun hc48 => ?_)
            · refine lv_aload_n hx hb dX4_digit_66 rfl (lv_at hl 1 rfl) ?_
              refine bk_g C i4 hw hbk 6 (by decide) (v := .ref (B 3)) rfl dX4_digit_67 lk33 ?_
              refine lv_aload_n hx hb dX4_digit_70 rfl (lv_at hl 1 rfl) ?_
              refine bk_g C i4 hw hbk 0 (by decide) (v := .int (nI P)) rfl dX4_digit_71 lk58 ?_
              have htd : t = dn := by omega
              subst htd
              refine sv_v (As := [.int (nI P)]) (rest := []) C (v3_lower _ _ _ _ _ hS (B 3) P (bk_in hbk (i := 3) (by omega)) (by omega) (by omega)) (cwV 1 hts gX4_digit_X3_lower rfl rfl rfl (by decide +kernel) ⟨Nat.le_of_ble_eq_true rfl, Nat.le_of_ble_eq_true rfl⟩) hsz hw (bd_recv C hw (bk_in hbk (i := 3) (by omega))) dX4_digit_74 rfl hl.1 rfl (Nat.le_of_ble_eq_true rfl) ⟨Nat.le_refl _, Nat.le_refl _⟩ (fun z sg H locs hv9 hf9 hS hw => ?_)
              have fT9 : sg (B 3) = (((mu kn).natAbs * 10 ^ t / 2 ^ P : Nat) : Int) := hv9.trans (by rw [f_3]; rfl)
              have f_3 := fT9
              have hof : ∀ j, (j = 0 ∨ 8 ≤ j) → j < 32 → sg (B j) = sg0 (B j) := fun j h1 h2 => (hf9 (B j) (bk_ne hbk (i := j) (j := 3) (by omega) (by omega) (by omega))).trans (hof j h1 h2)
              have hfi : fn_iv (P + 64) (bk_A B) sg := fn_ivm hfi (hf9 (bk_A B 1) (bk_ne hbk (i := 31 + 1) (j := 3) (by decide) (by decide) (by decide))) (hf9 (bk_A B 2) (bk_ne hbk (i := 31 + 2) (j := 3) (by decide) (by decide) (by decide))) (hf9 (bk_A B 3) (bk_ne hbk (i := 31 + 3) (j := 3) (by decide) (by decide) (by decide)))
              refine lv_iconst (v := nI 0) hx hb dX4_digit_77 (by decide) ?_
              refine lv_istore_n (lv' := [(3, .int (nI 0)), (0, .ref (a 0)), (1, .int (nI kn)), (2, .int (nI t))]) hx hb dX4_digit_78 rfl hl (by decide) rfl (fun ls hl => ?_)
              refine lv_iload_n hx hb dX4_digit_79 rfl (lv_at hl 0 rfl) ?_
              refine lv_iload_n hx hb dX4_digit_80 rfl (lv_at hl 3 rfl) ?_
              refine bd_ile (h1 := by omega) (h2 := by omega) (tgt := 100) hx hb dX4_digit_81 (by decide) (fun hc81 => ?_) (fun hc81 => ?_)
              · refine lv_aload_n hx hb dX4_digit_100 rfl (lv_at hl 1 rfl) ?_
                refine bk_g C i4 hw hbk 6 (by decide) (v := .ref (B 3)) rfl dX4_digit_101 lk33 ?_
                refine lv_bipush (v := nI 10) hx hb dX4_digit_104 (by decide) ?_
                have hm9 : (sg (B 3)).natAbs % 10 = ((mu kn).natAbs * 10 ^ t / 2 ^ P) % 10 := by rw [f_3, Int.natAbs_natCast]
                have hQ9 := v3_divide l K E0 z H.size hS (B 3) 10 (bk_in hbk (i := 3) (by omega)) (by decide) (by decide) (by rw [f_3]; exact dg_s2 hbm_kn (by omega))
                rw [hm9] at hQ9
                refine sv_i (As := [.int (nI 10)]) (rest := []) C (hQ9) (cwV 1 hts gX4_digit_X3_divide rfl rfl rfl (by decide +kernel) ⟨Nat.le_of_ble_eq_true rfl, Nat.le_of_ble_eq_true rfl⟩) hsz hw (bd_recv C hw (bk_in hbk (i := 3) (by omega))) dX4_digit_106 rfl hl.1 rfl (Nat.le_of_ble_eq_true rfl) ⟨Nat.le_refl _, Nat.le_refl _⟩ (fun z sg H locs hv9 hf9 hS hw => ?_)
                have fT9 : sg (B 3) = ((((mu kn).natAbs * 10 ^ t / 2 ^ P : Nat) : Int) / ((10 : Nat) : Int)) := hv9.trans (by rw [f_3])
                have f_3 := fT9
                have hof : ∀ j, (j = 0 ∨ 8 ≤ j) → j < 32 → sg (B j) = sg0 (B j) := fun j h1 h2 => (hf9 (B j) (bk_ne hbk (i := j) (j := 3) (by omega) (by omega) (by omega))).trans (hof j h1 h2)
                have hfi : fn_iv (P + 64) (bk_A B) sg := fn_ivm hfi (hf9 (bk_A B 1) (bk_ne hbk (i := 31 + 1) (j := 3) (by decide) (by decide) (by decide))) (hf9 (bk_A B 2) (bk_ne hbk (i := 31 + 2) (j := 3) (by decide) (by decide) (by decide))) (hf9 (bk_A B 3) (bk_ne hbk (i := 31 + 3) (j := 3) (by decide) (by decide) (by decide)))
                have hd : dk_digit P (nI kn) (nI t) mu = (nI (((mu kn).natAbs * 10 ^ t / 2 ^ P) % 10)) := dg_va hpl_kn hx_kn (by omega)
                exact bd_iret C hr hlk hw dX4_digit_109 ⟨hd.symm, hbk, sg, hS, bk_ivm hiv hof hfi⟩
              · exact absurd hc81 (by omega)
            · refine lv_aload_n hx hb dX4_digit_51 rfl (lv_at hl 1 rfl) ?_
              refine bk_g C i4 hw hbk 6 (by decide) (v := .ref (B 3)) rfl dX4_digit_52 lk33 ?_
              refine lv_bipush (v := nI 10) hx hb dX4_digit_55 (by decide) ?_
              refine sv_v (As := [.int (nI 10)]) (rest := []) C (v3_multiply _ _ _ _ _ hS (B 3) (nI 10) (bk_in hbk (i := 3) (by omega)) (by rw [f_3]; exact dg_b hbm_kn (by omega))) (cwV 1 hts gX4_digit_X3_multiply rfl rfl rfl (by decide +kernel) ⟨Nat.le_of_ble_eq_true rfl, Nat.le_of_ble_eq_true rfl⟩) hsz hw (bd_recv C hw (bk_in hbk (i := 3) (by omega))) dX4_digit_57 rfl hl.1 rfl (Nat.le_of_ble_eq_true rfl) ⟨Nat.le_refl _, Nat.le_refl _⟩ (fun z sg H locs hv9 hf9 hS hw => ?_)
              have fT9 : sg (B 3) = (((mu kn).natAbs * 10 ^ (t + 1) : Nat) : Int) := hv9.trans (by rw [f_3]; exact dg_m)
              have f_3 := fT9
              have hof : ∀ j, (j = 0 ∨ 8 ≤ j) → j < 32 → sg (B j) = sg0 (B j) := fun j h1 h2 => (hf9 (B j) (bk_ne hbk (i := j) (j := 3) (by omega) (by omega) (by omega))).trans (hof j h1 h2)
              have hfi : fn_iv (P + 64) (bk_A B) sg := fn_ivm hfi (hf9 (bk_A B 1) (bk_ne hbk (i := 31 + 1) (j := 3) (by decide) (by decide) (by decide))) (hf9 (bk_A B 2) (bk_ne hbk (i := 31 + 2) (j := 3) (by decide) (by decide) (by decide))) (hf9 (bk_A B 3) (bk_ne hbk (i := 31 + 3) (j := 3) (by decide) (by decide) (by decide)))
              refine lv_iinc (v := (nI (t + 1))) (lv' := [(3, .int (nI (t + 1))), (0, .ref (a 0)), (1, .int (nI kn)), (2, .int (nI dn))]) hx hb dX4_digit_60 hl (k := 0) rfl (nI_1 _) (by decide) rfl (fun ls hl => ?_)
              refine lv_goto (tgt := 46) hx hb dX4_digit_63 (by decide) ?_
              exact ih (d9 - 1) (by omega) (t + 1) z sg ls H locs (by omega) hS f_3 hof hfi (lv_sub hl [0, 1, 2, 3] rfl) hw
        · subst hde
          refine lv_aload_n hx hb dX4_digit_21 rfl (lv_at hl 0 rfl) ?_
          refine bk_g C i4 hw hbk 6 (by decide) (v := .ref (B 3)) rfl dX4_digit_22 lk33 ?_
          refine lv_aload_n hx hb dX4_digit_25 rfl (lv_at hl 0 rfl) ?_
          refine bk_g C i4 hw hbk 2 (by decide) (v := .ref (a 1)) rfl dX4_digit_26 lk18 ?_
          refine lv_iload_n hx hb dX4_digit_29 rfl (lv_at hl 1 rfl) ?_
          refine bk_ald C hw hbk hkn dX4_digit_30 ?_
          refine bl_gm C ib0 hw (bk_pl hbk (k := kn) hkn) dX4_digit_31 lk85 ?_
          have fm_kn : sg0 (B (8 + kn)) = mu kn := (hof (8 + kn) (by omega) (by omega)).trans (hiv.2.2 kn hkn).1
          refine sv_v (As := [.ref (B (8 + kn))]) (rest := []) C (v3_become_ _ _ _ _ _ hS (B 3) (B (8 + kn)) (bk_in hbk (i := 3) (by omega)) (bk_in hbk (i := (8 + kn)) (by omega))) (cwV 1 hts gX4_digit_X3_become_ rfl rfl rfl (by decide +kernel) ⟨Nat.le_of_ble_eq_true rfl, Nat.le_of_ble_eq_true rfl⟩) hsz hw (bd_recv C hw (bk_in hbk (i := 3) (by omega))) dX4_digit_34 rfl hl.1 rfl (Nat.le_of_ble_eq_true rfl) ⟨Nat.le_refl _, Nat.le_refl _⟩ (fun z sg H locs hv9 hf9 hS hw => ?_)
          have fT9 : sg (B 3) = mu kn := hv9.trans (by exact fm_kn)
          have f_3 := fT9
          have hof : ∀ j, (j = 0 ∨ 8 ≤ j) → j < 32 → sg (B j) = sg0 (B j) := fun j h1 h2 => (hf9 (B j) (bk_ne hbk (i := j) (j := 3) (by omega) (by omega) (by omega))).trans (hof j h1 h2)
          have hfi : fn_iv (P + 64) (bk_A B) sg := fn_ivm hfi (hf9 (bk_A B 1) (bk_ne hbk (i := 31 + 1) (j := 3) (by decide) (by decide) (by decide))) (hf9 (bk_A B 2) (bk_ne hbk (i := 31 + 2) (j := 3) (by decide) (by decide) (by decide))) (hf9 (bk_A B 3) (bk_ne hbk (i := 31 + 3) (j := 3) (by decide) (by decide) (by decide)))
          refine lv_aload_n hx hb dX4_digit_37 rfl (lv_at hl 0 rfl) ?_
          refine bk_g C i4 hw hbk 6 (by decide) (v := .ref (B 3)) rfl dX4_digit_38 lk33 ?_
          refine sv_v (As := []) (rest := []) C (v3_dropSign _ _ _ _ _ hS (B 3) (bk_in hbk (i := 3) (by omega))) (cwV 0 hts gX4_digit_X3_dropSign rfl rfl rfl (by decide +kernel) ⟨Nat.le_of_ble_eq_true rfl, Nat.le_of_ble_eq_true rfl⟩) hsz hw (bd_recv C hw (bk_in hbk (i := 3) (by omega))) dX4_digit_41 rfl hl.1 rfl (Nat.le_of_ble_eq_true rfl) ⟨Nat.le_refl _, Nat.le_refl _⟩ (fun z sg H locs hv9 hf9 hS hw => ?_)
          have fT9 : sg (B 3) = (((mu kn).natAbs : Nat) : Int) := hv9.trans (by rw [f_3])
          have f_3 := fT9
          have hof : ∀ j, (j = 0 ∨ 8 ≤ j) → j < 32 → sg (B j) = sg0 (B j) := fun j h1 h2 => (hf9 (B j) (bk_ne hbk (i := j) (j := 3) (by omega) (by omega) (by omega))).trans (hof j h1 h2)
          have hfi : fn_iv (P + 64) (bk_A B) sg := fn_ivm hfi (hf9 (bk_A B 1) (bk_ne hbk (i := 31 + 1) (j := 3) (by decide) (by decide) (by decide))) (hf9 (bk_A B 2) (bk_ne hbk (i := 31 + 2) (j := 3) (by decide) (by decide) (by decide))) (hf9 (bk_A B 3) (bk_ne hbk (i := 31 + 3) (j := 3) (by decide) (by decide) (by decide)))
          refine lv_iconst (v := nI 0) hx hb dX4_digit_44 (by decide) ?_
          refine lv_istore_n (lv' := [(3, .int (nI 0)), (0, .ref (a 0)), (1, .int (nI kn)), (2, .int (-(nI dm)))]) hx hb dX4_digit_45 rfl hl (by decide) rfl (fun ls hl => ?_)
          refine lv_iload_n hx hb dX4_digit_46 rfl (lv_at hl 0 rfl) ?_
          refine lv_iload_n hx hb dX4_digit_47 rfl (lv_at hl 3 rfl) ?_
          refine lv_icmp_ge (tgt := 66) hx hb dX4_digit_48 (by decide) (fun hc48 => ?_) (fun hc48 => ?_)
          · refine lv_aload_n hx hb dX4_digit_66 rfl (lv_at hl 1 rfl) ?_
            refine bk_g C i4 hw hbk 6 (by decide) (v := .ref (B 3)) rfl dX4_digit_67 lk33 ?_
            refine lv_aload_n hx hb dX4_digit_70 rfl (lv_at hl 1 rfl) ?_
            refine bk_g C i4 hw hbk 0 (by decide) (v := .int (nI P)) rfl dX4_digit_71 lk58 ?_
            refine sv_v (As := [.int (nI P)]) (rest := []) C (v3_lower _ _ _ _ _ hS (B 3) P (bk_in hbk (i := 3) (by omega)) (by omega) (by omega)) (cwV 1 hts gX4_digit_X3_lower rfl rfl rfl (by decide +kernel) ⟨Nat.le_of_ble_eq_true rfl, Nat.le_of_ble_eq_true rfl⟩) hsz hw (bd_recv C hw (bk_in hbk (i := 3) (by omega))) dX4_digit_74 rfl hl.1 rfl (Nat.le_of_ble_eq_true rfl) ⟨Nat.le_refl _, Nat.le_refl _⟩ (fun z sg H locs hv9 hf9 hS hw => ?_)
            have fT9 : sg (B 3) = (((mu kn).natAbs / 2 ^ P : Nat) : Int) := hv9.trans (by rw [f_3]; rfl)
            have f_3 := fT9
            have hof : ∀ j, (j = 0 ∨ 8 ≤ j) → j < 32 → sg (B j) = sg0 (B j) := fun j h1 h2 => (hf9 (B j) (bk_ne hbk (i := j) (j := 3) (by omega) (by omega) (by omega))).trans (hof j h1 h2)
            have hfi : fn_iv (P + 64) (bk_A B) sg := fn_ivm hfi (hf9 (bk_A B 1) (bk_ne hbk (i := 31 + 1) (j := 3) (by decide) (by decide) (by decide))) (hf9 (bk_A B 2) (bk_ne hbk (i := 31 + 2) (j := 3) (by decide) (by decide) (by decide))) (hf9 (bk_A B 3) (bk_ne hbk (i := 31 + 3) (j := 3) (by decide) (by decide) (by decide)))
            refine lv_iconst (v := -(nI 0)) hx hb dX4_digit_77 (by decide) ?_
            refine lv_istore_n (lv' := [(3, .int (-(nI 0))), (0, .ref (a 0)), (1, .int (nI kn)), (2, .int (-(nI dm)))]) hx hb dX4_digit_78 rfl hl (by decide) rfl (fun ls hl => ?_)
            suffices hloop : ∀ (d9 t : Nat) (z : Nat → Wh) (sg : Nat → Int) (ls : Array Slot) (H : Heap) (locs : List Loc), t + d9 = dm → sg_S K z sg → (sg (B 3) = (((mu kn).natAbs / 2 ^ P / 10 ^ t : Nat) : Int)) → (∀ j, (j = 0 ∨ 8 ≤ j) → j < 32 → sg (B j) = sg0 (B j)) → fn_iv (P + 64) (bk_A B) sg → lv_has ls 4 [(3, .int (-(nI t))), (0, .ref (a 0)), (1, .int (nI kn)), (2, .int (-(nI dm)))] → bd_W K E0 z (bd_A K sz) s.heap H locs → W p l e (headSpec wsX4_digit ({ frames := 7, cells := 0, slots := 0, locals := 240 })).room s m [.ref (a 0), .int (nI kn), .int (-(nI dm))].toArray below meth c H locs 0 0 (MQ below (va_Qi (bk_post K P a B (dk_digit P (nI kn) (-(nI dm)) mu, mu, ra)) (bd_B K) (bd_A K sz)) [.ref (a 0), .int (nI kn), .int (-(nI dm))].toArray s 0 0 (bd_A K sz)) (F0 m 79 ls []) from hloop dm 0 z sg ls H locs (by omega) hS (f_3.trans dg_1) hof hfi (lv_sub hl [0, 1, 2, 3] rfl) hw
            clear hw hl ls hof hfi hS f_3
            intro d9
            induction d9 using Nat.strongRecOn with
            | ind d9 ih2 =>
              intro t z sg ls H locs hjd hS f_3 hof hfi hl hw
              refine lv_iload_n hx hb dX4_digit_79 rfl (lv_at hl 0 rfl) ?_
              refine lv_iload_n hx hb dX4_digit_80 rfl (lv_at hl 3 rfl) ?_
              refine lv_icmp_le (tgt := 100) hx hb dX4_digit_81 (by decide) (fun hc81 => ?_) (fun hc81 => ?_)
              · have htd : t = dm := by have := ng_le (by omega) (by omega) hc81; omega
                refine lv_aload_n hx hb dX4_digit_100 rfl (lv_at hl 1 rfl) ?_
                refine bk_g C i4 hw hbk 6 (by decide) (v := .ref (B 3)) rfl dX4_digit_101 lk33 ?_
                refine lv_bipush (v := nI 10) hx hb dX4_digit_104 (by decide) ?_
                have hm9 : (sg (B 3)).natAbs % 10 = ((mu kn).natAbs / 2 ^ P / 10 ^ t) % 10 := by rw [f_3, Int.natAbs_natCast]
                have hQ9 := v3_divide l K E0 z H.size hS (B 3) 10 (bk_in hbk (i := 3) (by omega)) (by decide) (by decide) (by rw [f_3]; exact dg_s (Nat.le_trans (Nat.le_trans (Nat.div_le_self _ _) (Nat.div_le_self _ _)) hbm_kn))
                rw [hm9] at hQ9
                refine sv_i (As := [.int (nI 10)]) (rest := []) C (hQ9) (cwV 1 hts gX4_digit_X3_divide rfl rfl rfl (by decide +kernel) ⟨Nat.le_of_ble_eq_true rfl, Nat.le_of_ble_eq_true rfl⟩) hsz hw (bd_recv C hw (bk_in hbk (i := 3) (by omega))) dX4_digit_106 rfl hl.1 rfl (Nat.le_of_ble_eq_true rfl) ⟨Nat.le_refl _, Nat.le_refl _⟩ (fun z sg H locs hv9 hf9 hS hw => ?_)
                have fT9 : sg (B 3) = ((((mu kn).natAbs / 2 ^ P / 10 ^ t : Nat) : Int) / ((10 : Nat) : Int)) := hv9.trans (by rw [f_3])
                have f_3 := fT9
                have hof : ∀ j, (j = 0 ∨ 8 ≤ j) → j < 32 → sg (B j) = sg0 (B j) := fun j h1 h2 => (hf9 (B j) (bk_ne hbk (i := j) (j := 3) (by omega) (by omega) (by omega))).trans (hof j h1 h2)
                have hfi : fn_iv (P + 64) (bk_A B) sg := fn_ivm hfi (hf9 (bk_A B 1) (bk_ne hbk (i := 31 + 1) (j := 3) (by decide) (by decide) (by decide))) (hf9 (bk_A B 2) (bk_ne hbk (i := 31 + 2) (j := 3) (by decide) (by decide) (by decide))) (hf9 (bk_A B 3) (bk_ne hbk (i := 31 + 3) (j := 3) (by decide) (by decide) (by decide)))
                have hd : dk_digit P (nI kn) (-(nI dm)) mu = (nI (((mu kn).natAbs / 2 ^ P / 10 ^ t) % 10)) := by rw [htd]; exact dg_vb hpl_kn hx_kn hdm1 hdm2
                exact bd_iret C hr hlk hw dX4_digit_109 ⟨hd.symm, hbk, sg, hS, bk_ivm hiv hof hfi⟩
              · have htd : t < dm := by have := ng_nle (by omega) (by omega) hc81; omega
                refine lv_aload_n hx hb dX4_digit_84 rfl (lv_at hl 1 rfl) ?_
                refine bk_g C i4 hw hbk 6 (by decide) (v := .ref (B 3)) rfl dX4_digit_85 lk33 ?_
                refine lv_bipush (v := nI 10) hx hb dX4_digit_88 (by decide) ?_
                refine sv_i (As := [.int (nI 10)]) (rest := []) C (v3_divide _ _ _ _ _ hS (B 3) 10 (bk_in hbk (i := 3) (by omega)) (by decide) (by decide) (by rw [f_3]; exact dg_s (Nat.le_trans (Nat.le_trans (Nat.div_le_self _ _) (Nat.div_le_self _ _)) hbm_kn))) (cwV 1 hts gX4_digit_X3_divide rfl rfl rfl (by decide +kernel) ⟨Nat.le_of_ble_eq_true rfl, Nat.le_of_ble_eq_true rfl⟩) hsz hw (bd_recv C hw (bk_in hbk (i := 3) (by omega))) dX4_digit_90 rfl hl.1 rfl (Nat.le_of_ble_eq_true rfl) ⟨Nat.le_refl _, Nat.le_refl _⟩ (fun z sg H locs hv9 hf9 hS hw => ?_)
                have fT9 : sg (B 3) = (((mu kn).natAbs / 2 ^ P / 10 ^ (t + 1) : Nat) : Int) := hv9.trans (by rw [f_3]; exact dg_d)
                have f_3 := fT9
                have hof : ∀ j, (j = 0 ∨ 8 ≤ j) → j < 32 → sg (B j) = sg0 (B j) := fun j h1 h2 => (hf9 (B j) (bk_ne hbk (i := j) (j := 3) (by omega) (by omega) (by omega))).trans (hof j h1 h2)
                have hfi : fn_iv (P + 64) (bk_A B) sg := fn_ivm hfi (hf9 (bk_A B 1) (bk_ne hbk (i := 31 + 1) (j := 3) (by decide) (by decide) (by decide))) (hf9 (bk_A B 2) (bk_ne hbk (i := 31 + 2) (j := 3) (by decide) (by decide) (by decide))) (hf9 (bk_A B 3) (bk_ne hbk (i := 31 + 3) (j := 3) (by decide) (by decide) (by decide)))
                refine lv_pop hx hb dX4_digit_93 rfl ?_
                refine lv_iinc (v := -(nI (t + 1))) (lv' := [(3, .int (-(nI (t + 1)))), (0, .ref (a 0)), (1, .int (nI kn)), (2, .int (-(nI dm)))]) hx hb dX4_digit_94 hl (k := 0) rfl (ng_1 t) (by decide) rfl (fun ls hl => ?_)
                refine lv_goto (tgt := 79) hx hb dX4_digit_97 (by decide) ?_
                exact ih2 (d9 - 1) (by omega) (t + 1) z sg ls H locs (by omega) hS f_3 hof hfi (lv_sub hl [0, 1, 2, 3] rfl) hw
          · exact absurd (ng_le0 (by omega)) hc48
      · have hno : ¬ -14 ≤ d.toInt := fun q => hc16 (Int32.le_iff_toInt_le.mpr q)
        refine lv_iconst (v := (-1)) hx hb dX4_digit_19 (by decide) ?_
        have hd : dk_digit P (nI kn) d mu = (-1) := if_neg (fun q => hno q.2.1)
        exact bd_iret C hr hlk hw dX4_digit_20 ⟨hd.symm, hbk, sg0, hS, bk_ivm hiv hof hfi⟩
set_option maxHeartbeats 4000000 in
set_option maxRecDepth 100000 in
/-- BallDesk.sure -/
theorem c4_sure (l : Launch) (K : Cxt) (E0 : Nat → va_E) (z0 : Nat → Wh) (sz : Nat) {P : Nat} {a B : Nat → Nat} (hbk : bk_at K E0 P a B) {sg0 : Nat → Int} (hS : sg_S K z0 sg0) {mu ra : Nat → Int} (hiv : bk_iv P B sg0 mu ra) (k : Int32)  : Met l yX4_sure wsX4_sure ({ frames := 7, cells := 0, slots := 0, locals := 240 }) (va_Pc [.ref (a 0), .int k] (bd_P K E0 z0 sz)) (va_Qi (bk_post K P a B (dk_sure P k mu ra, mu, ra)) (bd_B K) (bd_A K sz)) 0 0 (bd_A K sz) := by
  refine bd_ofW (cc := cX4_sure) (maxL := 3) (ret := (some .int)) (by decide) rfl (Nat.le_of_ble_eq_true rfl) ?_
  intro p e s m below meth c ls C hr hlk hsz hw hl
  have hx := C.1
  have hb := C.2.1
  have hown := C.2.2.2.1
  have hts := C.2.2.2.2.1
  have i4 : ∀ w ∈ wsX40, w ∈ wsX4_sure := by decide +kernel
  have lk18 : Cond.fieldLink RX4 18 "BallDesk" "places" "[LBallDesk$Ball;" ∈ wsX4_sure := by decide +kernel
  have lk33 : Cond.fieldLink RX4 33 "BallDesk" "left" "LBallDesk$Whole;" ∈ wsX4_sure := by decide +kernel
  have lk27 : Cond.fieldLink RX4 27 "BallDesk" "low" "LBallDesk$Whole;" ∈ wsX4_sure := by decide +kernel
  have lk58 : Cond.fieldLink RX4 58 "BallDesk" "bits" "I" ∈ wsX4_sure := by decide +kernel
  have lk36 : Cond.fieldLink RX4 36 "BallDesk" "right" "LBallDesk$Whole;" ∈ wsX4_sure := by decide +kernel
  have lk30 : Cond.fieldLink RX4 30 "BallDesk" "high" "LBallDesk$Whole;" ∈ wsX4_sure := by decide +kernel
  obtain ⟨hP1, hP2⟩ := bk_P hbk
  have hl : lv_has ls 3 [(0, .ref (a 0)), (1, .int k)] := hl
  have hof : ∀ j, (j = 0 ∨ 8 ≤ j) → j < 32 → sg0 (B j) = sg0 (B j) := fun _ _ _ => rfl
  have hfi := hiv.2.1
  refine lv_iload_n hx hb dX4_sure_0 rfl (lv_at hl 1 rfl) ?_
  refine bd_sip (As := [.int k]) (rest := []) C (c4_isPlace _ _ _ _ _ k) (va_cwS 1 hts gX4_sure_X4_isPlace rfl rfl rfl (by decide +kernel) ⟨Nat.le_of_ble_eq_true rfl, Nat.le_of_ble_eq_true rfl⟩) hsz hw dX4_sure_1 rfl hl.1 rfl (Nat.le_of_ble_eq_true rfl) ⟨Nat.le_refl _, Nat.le_refl _⟩ (fun H locs hw => ?_)
  refine lv_if_ne (tgt := 10) hx hb dX4_sure_4 (by decide) (fun hc4 => ?_) (fun hc4 => ?_)
  · have hpl_kn := pl_t hc4
    obtain ⟨kn, hkn, hk_kn, hx_kn⟩ := pl_x hpl_kn
    subst hk_kn
    obtain ⟨hbm_kn, hb0_kn, hbr_kn⟩ := bk_b hP2 hiv hkn
    obtain ⟨he1, he2⟩ := e_b hbm_kn hbr_kn
    refine lv_aload_n hx hb dX4_sure_10 rfl (lv_at hl 0 rfl) ?_
    refine lv_aload_n hx hb dX4_sure_11 rfl (lv_at hl 0 rfl) ?_
    refine bk_g C i4 hw hbk 2 (by decide) (v := .ref (a 1)) rfl dX4_sure_12 lk18 ?_
    refine lv_iload_n hx hb dX4_sure_15 rfl (lv_at hl 1 rfl) ?_
    refine bk_ald C hw hbk hkn dX4_sure_16 ?_
    have fm_kn : sg0 (B (8 + kn)) = mu kn := (hof (8 + kn) (by omega) (by omega)).trans (hiv.2.2 kn hkn).1
    have fr_kn : sg0 (B (20 + kn)) = ra kn := (hof (20 + kn) (by omega) (by omega)).trans (hiv.2.2 kn hkn).2.1
    refine bd_cv (As := [.ref (a (3 + kn))]) (rest := []) C (c4_findEnds _ _ _ _ _ hbk hS kn hkn (by rw [fm_kn, fr_kn]; exact (Nat.lt_of_le_of_lt (Nat.add_le_add hbm_kn hbr_kn) (by decide +kernel)))) (cwV 1 hts gX4_sure_X4_findEnds rfl rfl rfl (by decide +kernel) ⟨Nat.le_of_ble_eq_true rfl, Nat.le_of_ble_eq_true rfl⟩) hsz hw (bk_recv C hw hbk) dX4_sure_17 rfl hl.1 rfl (Nat.le_of_ble_eq_true rfl) ⟨Nat.le_refl _, Nat.le_refl _⟩ (fun E1 z H locs hp hw => ?_)
    obtain ⟨hE9, sg, hS, hv0_, hv1_, hf9⟩ := hp
    rw [show E1 = E0 from hE9] at hw
    have fT0_ : sg (B 1) = (mu kn - ra kn) := hv0_.trans (by rw [fm_kn, fr_kn])
    have fT1_ : sg (B 2) = (mu kn + ra kn) := hv1_.trans (by rw [fm_kn, fr_kn])
    have f_1 := fT0_
    have f_2 := fT1_
    have hof : ∀ j, (j = 0 ∨ 8 ≤ j) → j < 32 → sg (B j) = sg0 (B j) := fun j h1 h2 => (hf9 (B j) (bk_ne hbk (i := j) (j := 1) (by omega) (by omega) (by omega)) (bk_ne hbk (i := j) (j := 2) (by omega) (by omega) (by omega))).trans (hof j h1 h2)
    have hfi : fn_iv (P + 64) (bk_A B) sg := fn_ivm hfi (hf9 (bk_A B 1) (bk_ne hbk (i := 31 + 1) (j := 1) (by decide) (by decide) (by decide)) (bk_ne hbk (i := 31 + 1) (j := 2) (by decide) (by decide) (by decide))) (hf9 (bk_A B 2) (bk_ne hbk (i := 31 + 2) (j := 1) (by decide) (by decide) (by decide)) (bk_ne hbk (i := 31 + 2) (j := 2) (by decide) (by decide) (by decide))) (hf9 (bk_A B 3) (bk_ne hbk (i := 31 + 3) (j := 1) (by decide) (by decide) (by decide)) (bk_ne hbk (i := 31 + 3) (j := 2) (by decide) (by decide) (by decide)))
    refine lv_iconst (v := nI 0) hx hb dX4_sure_20 (by decide) ?_
    refine lv_istore_n (lv' := [(2, .int (nI 0)), (0, .ref (a 0)), (1, .int (nI kn))]) hx hb dX4_sure_21 rfl hl (by decide) rfl (fun ls hl => ?_)
    suffices hloop : ∀ (d9 t : Nat) (z : Nat → Wh) (sg : Nat → Int) (ls : Array Slot) (H : Heap) (locs : List Loc), t + d9 = 61 → sg_S K z sg → (sg (B 1) = ((mu kn - ra kn) * ((10 ^ t : Nat) : Int))) → (sg (B 2) = ((mu kn + ra kn) * ((10 ^ t : Nat) : Int))) → (∀ q, q < t → dk_ag P (mu kn - ra kn) (mu kn + ra kn) q) → (∀ j, (j = 0 ∨ 8 ≤ j) → j < 32 → sg (B j) = sg0 (B j)) → fn_iv (P + 64) (bk_A B) sg → lv_has ls 3 [(2, .int (nI t)), (0, .ref (a 0)), (1, .int (nI kn))] → bd_W K E0 z (bd_A K sz) s.heap H locs → W p l e (headSpec wsX4_sure ({ frames := 7, cells := 0, slots := 0, locals := 240 })).room s m [.ref (a 0), .int (nI kn)].toArray below meth c H locs 0 0 (MQ below (va_Qi (bk_post K P a B (dk_sure P (nI kn) mu ra, mu, ra)) (bd_B K) (bd_A K sz)) [.ref (a 0), .int (nI kn)].toArray s 0 0 (bd_A K sz)) (F0 m 22 ls []) from hloop 61 0 z sg ls H locs (by omega) hS (f_1.trans su_0) (f_2.trans su_0) (fun q hq => absurd hq (by omega)) hof hfi (lv_sub hl [0, 1, 2] rfl) hw
    clear hw hl ls hof hfi hS f_1 f_2
    intro d9
    induction d9 using Nat.strongRecOn with
    | ind d9 ih =>
      intro t z sg ls H locs hjd hS f_1 f_2 hag hof hfi hl hw
      refine lv_iload_n hx hb dX4_sure_22 rfl (lv_at hl 0 rfl) ?_
      refine lv_bipush (v := nI 60) hx hb dX4_sure_23 (by decide) ?_
      refine bd_igt (h1 := (by omega)) (h2 := (by omega)) (tgt := 114) hx hb dX4_sure_25 (by decide) (fun hc25 => ?_) (fun hc25 => ?_)
      · refine lv_bipush (v := nI 61 - nI 1) hx hb dX4_sure_114 (by decide) ?_
        have hd : dk_sure P (nI kn) mu ra = (nI 61 - nI 1) := dk_sureq hpl_kn hx_kn ⟨61, by omega, fun q hq => hag q (by omega), fun q => absurd q (by omega), rfl⟩
        exact bd_iret C hr hlk hw dX4_sure_116 ⟨hd.symm, hbk, sg, hS, bk_ivm hiv hof hfi⟩
      · refine lv_aload_n hx hb dX4_sure_28 rfl (lv_at hl 1 rfl) ?_
        refine bk_g C i4 hw hbk 6 (by decide) (v := .ref (B 3)) rfl dX4_sure_29 lk33 ?_
        refine lv_aload_n hx hb dX4_sure_32 rfl (lv_at hl 1 rfl) ?_
        refine bk_g C i4 hw hbk 4 (by decide) (v := .ref (B 1)) rfl dX4_sure_33 lk27 ?_
        refine sv_v (As := [.ref (B 1)]) (rest := []) C (v3_become_ _ _ _ _ _ hS (B 3) (B 1) (bk_in hbk (i := 3) (by omega)) (bk_in hbk (i := 1) (by omega))) (cwV 1 hts gX4_sure_X3_become_ rfl rfl rfl (by decide +kernel) ⟨Nat.le_of_ble_eq_true rfl, Nat.le_of_ble_eq_true rfl⟩) hsz hw (bd_recv C hw (bk_in hbk (i := 3) (by omega))) dX4_sure_36 rfl hl.1 rfl (Nat.le_of_ble_eq_true rfl) ⟨Nat.le_refl _, Nat.le_refl _⟩ (fun z sg H locs hv9 hf9 hS hw => ?_)
        have fT9 : sg (B 3) = ((mu kn - ra kn) * ((10 ^ t : Nat) : Int)) := hv9.trans (by exact f_1)
        have f_1 : sg (B 1) = ((mu kn - ra kn) * ((10 ^ t : Nat) : Int)) := (hf9 (B 1) (bk_ne hbk (i := 1) (j := 3) (by omega) (by omega) (by omega))).trans f_1
        have f_2 : sg (B 2) = ((mu kn + ra kn) * ((10 ^ t : Nat) : Int)) := (hf9 (B 2) (bk_ne hbk (i := 2) (j := 3) (by omega) (by omega) (by omega))).trans f_2
        have f_3 := fT9
        have hof : ∀ j, (j = 0 ∨ 8 ≤ j) → j < 32 → sg (B j) = sg0 (B j) := fun j h1 h2 => (hf9 (B j) (bk_ne hbk (i := j) (j := 3) (by omega) (by omega) (by omega))).trans (hof j h1 h2)
        have hfi : fn_iv (P + 64) (bk_A B) sg := fn_ivm hfi (hf9 (bk_A B 1) (bk_ne hbk (i := 31 + 1) (j := 3) (by decide) (by decide) (by decide))) (hf9 (bk_A B 2) (bk_ne hbk (i := 31 + 2) (j := 3) (by decide) (by decide) (by decide))) (hf9 (bk_A B 3) (bk_ne hbk (i := 31 + 3) (j := 3) (by decide) (by decide) (by decide)))
        refine lv_aload_n hx hb dX4_sure_39 rfl (lv_at hl 1 rfl) ?_
        refine bk_g C i4 hw hbk 6 (by decide) (v := .ref (B 3)) rfl dX4_sure_40 lk33 ?_
        refine lv_aload_n hx hb dX4_sure_43 rfl (lv_at hl 1 rfl) ?_
        refine bk_g C i4 hw hbk 0 (by decide) (v := .int (nI P)) rfl dX4_sure_44 lk58 ?_
        refine sv_v (As := [.int (nI P)]) (rest := []) C (v3_lower _ _ _ _ _ hS (B 3) P (bk_in hbk (i := 3) (by omega)) (by omega) (by omega)) (cwV 1 hts gX4_sure_X3_lower rfl rfl rfl (by decide +kernel) ⟨Nat.le_of_ble_eq_true rfl, Nat.le_of_ble_eq_true rfl⟩) hsz hw (bd_recv C hw (bk_in hbk (i := 3) (by omega))) dX4_sure_47 rfl hl.1 rfl (Nat.le_of_ble_eq_true rfl) ⟨Nat.le_refl _, Nat.le_refl _⟩ (fun z sg H locs hv9 hf9 hS hw => ?_)
        have fT9 : sg (B 3) = (((mu kn - ra kn) * ((10 ^ t : Nat) : Int)) / dk_p P) := hv9.trans (by rw [f_3])
        have f_1 : sg (B 1) = ((mu kn - ra kn) * ((10 ^ t : Nat) : Int)) := (hf9 (B 1) (bk_ne hbk (i := 1) (j := 3) (by omega) (by omega) (by omega))).trans f_1
        have f_2 : sg (B 2) = ((mu kn + ra kn) * ((10 ^ t : Nat) : Int)) := (hf9 (B 2) (bk_ne hbk (i := 2) (j := 3) (by omega) (by omega) (by omega))).trans f_2
        have f_3 := fT9
        have hof : ∀ j, (j = 0 ∨ 8 ≤ j) → j < 32 → sg (B j) = sg0 (B j) := fun j h1 h2 => (hf9 (B j) (bk_ne hbk (i := j) (j := 3) (by omega) (by omega) (by omega))).trans (hof j h1 h2)
        have hfi : fn_iv (P + 64) (bk_A B) sg := fn_ivm hfi (hf9 (bk_A B 1) (bk_ne hbk (i := 31 + 1) (j := 3) (by decide) (by decide) (by decide))) (hf9 (bk_A B 2) (bk_ne hbk (i := 31 + 2) (j := 3) (by decide) (by decide) (by decide))) (hf9 (bk_A B 3) (bk_ne hbk (i := 31 + 3) (j := 3) (by decide) (by decide) (by decide)))
        refine lv_aload_n hx hb dX4_sure_50 rfl (lv_at hl 1 rfl) ?_
        refine bk_g C i4 hw hbk 7 (by decide) (v := .ref (B 4)) rfl dX4_sure_51 lk36 ?_
        refine lv_aload_n hx hb dX4_sure_54 rfl (lv_at hl 1 rfl) ?_
        refine bk_g C i4 hw hbk 5 (by decide) (v := .ref (B 2)) rfl dX4_sure_55 lk30 ?_
        refine sv_v (As := [.ref (B 2)]) (rest := []) C (v3_become_ _ _ _ _ _ hS (B 4) (B 2) (bk_in hbk (i := 4) (by omega)) (bk_in hbk (i := 2) (by omega))) (cwV 1 hts gX4_sure_X3_become_ rfl rfl rfl (by decide +kernel) ⟨Nat.le_of_ble_eq_true rfl, Nat.le_of_ble_eq_true rfl⟩) hsz hw (bd_recv C hw (bk_in hbk (i := 4) (by omega))) dX4_sure_58 rfl hl.1 rfl (Nat.le_of_ble_eq_true rfl) ⟨Nat.le_refl _, Nat.le_refl _⟩ (fun z sg H locs hv9 hf9 hS hw => ?_)
        have fT9 : sg (B 4) = ((mu kn + ra kn) * ((10 ^ t : Nat) : Int)) := hv9.trans (by exact f_2)
        have f_1 : sg (B 1) = ((mu kn - ra kn) * ((10 ^ t : Nat) : Int)) := (hf9 (B 1) (bk_ne hbk (i := 1) (j := 4) (by omega) (by omega) (by omega))).trans f_1
        have f_2 : sg (B 2) = ((mu kn + ra kn) * ((10 ^ t : Nat) : Int)) := (hf9 (B 2) (bk_ne hbk (i := 2) (j := 4) (by omega) (by omega) (by omega))).trans f_2
        have f_3 : sg (B 3) = (((mu kn - ra kn) * ((10 ^ t : Nat) : Int)) / dk_p P) := (hf9 (B 3) (bk_ne hbk (i := 3) (j := 4) (by omega) (by omega) (by omega))).trans f_3
        have f_4 := fT9
        have hof : ∀ j, (j = 0 ∨ 8 ≤ j) → j < 32 → sg (B j) = sg0 (B j) := fun j h1 h2 => (hf9 (B j) (bk_ne hbk (i := j) (j := 4) (by omega) (by omega) (by omega))).trans (hof j h1 h2)
        have hfi : fn_iv (P + 64) (bk_A B) sg := fn_ivm hfi (hf9 (bk_A B 1) (bk_ne hbk (i := 31 + 1) (j := 4) (by decide) (by decide) (by decide))) (hf9 (bk_A B 2) (bk_ne hbk (i := 31 + 2) (j := 4) (by decide) (by decide) (by decide))) (hf9 (bk_A B 3) (bk_ne hbk (i := 31 + 3) (j := 4) (by decide) (by decide) (by decide)))
        refine lv_aload_n hx hb dX4_sure_61 rfl (lv_at hl 1 rfl) ?_
        refine bk_g C i4 hw hbk 7 (by decide) (v := .ref (B 4)) rfl dX4_sure_62 lk36 ?_
        refine lv_aload_n hx hb dX4_sure_65 rfl (lv_at hl 1 rfl) ?_
        refine bk_g C i4 hw hbk 0 (by decide) (v := .int (nI P)) rfl dX4_sure_66 lk58 ?_
        refine sv_v (As := [.int (nI P)]) (rest := []) C (v3_lower _ _ _ _ _ hS (B 4) P (bk_in hbk (i := 4) (by omega)) (by omega) (by omega)) (cwV 1 hts gX4_sure_X3_lower rfl rfl rfl (by decide +kernel) ⟨Nat.le_of_ble_eq_true rfl, Nat.le_of_ble_eq_true rfl⟩) hsz hw (bd_recv C hw (bk_in hbk (i := 4) (by omega))) dX4_sure_69 rfl hl.1 rfl (Nat.le_of_ble_eq_true rfl) ⟨Nat.le_refl _, Nat.le_refl _⟩ (fun z sg H locs hv9 hf9 hS hw => ?_)
        have fT9 : sg (B 4) = (((mu kn + ra kn) * ((10 ^ t : Nat) : Int)) / dk_p P) := hv9.trans (by rw [f_4])
        have f_1 : sg (B 1) = ((mu kn - ra kn) * ((10 ^ t : Nat) : Int)) := (hf9 (B 1) (bk_ne hbk (i := 1) (j := 4) (by omega) (by omega) (by omega))).trans f_1
        have f_2 : sg (B 2) = ((mu kn + ra kn) * ((10 ^ t : Nat) : Int)) := (hf9 (B 2) (bk_ne hbk (i := 2) (j := 4) (by omega) (by omega) (by omega))).trans f_2
        have f_3 : sg (B 3) = (((mu kn - ra kn) * ((10 ^ t : Nat) : Int)) / dk_p P) := (hf9 (B 3) (bk_ne hbk (i := 3) (j := 4) (by omega) (by omega) (by omega))).trans f_3
        have f_4 := fT9
        have hof : ∀ j, (j = 0 ∨ 8 ≤ j) → j < 32 → sg (B j) = sg0 (B j) := fun j h1 h2 => (hf9 (B j) (bk_ne hbk (i := j) (j := 4) (by omega) (by omega) (by omega))).trans (hof j h1 h2)
        have hfi : fn_iv (P + 64) (bk_A B) sg := fn_ivm hfi (hf9 (bk_A B 1) (bk_ne hbk (i := 31 + 1) (j := 4) (by decide) (by decide) (by decide))) (hf9 (bk_A B 2) (bk_ne hbk (i := 31 + 2) (j := 4) (by decide) (by decide) (by decide))) (hf9 (bk_A B 3) (bk_ne hbk (i := 31 + 3) (j := 4) (by decide) (by decide) (by decide)))
        refine lv_aload_n hx hb dX4_sure_72 rfl (lv_at hl 1 rfl) ?_
        refine bk_g C i4 hw hbk 6 (by decide) (v := .ref (B 3)) rfl dX4_sure_73 lk33 ?_
        refine lv_aload_n hx hb dX4_sure_76 rfl (lv_at hl 1 rfl) ?_
        refine bk_g C i4 hw hbk 7 (by decide) (v := .ref (B 4)) rfl dX4_sure_77 lk36 ?_
        refine bd_cip (As := [.ref (B 4)]) (rest := []) C (v3_order _ _ _ _ _ hS (B 3) (B 4) (bk_in hbk (i := 3) (by omega)) (bk_in hbk (i := 4) (by omega))) (cwV 1 hts gX4_sure_X3_order rfl rfl rfl (by decide +kernel) ⟨Nat.le_of_ble_eq_true rfl, Nat.le_of_ble_eq_true rfl⟩) hsz hw (bd_recv C hw (bk_in hbk (i := 3) (by omega))) dX4_sure_80 rfl hl.1 rfl (Nat.le_of_ble_eq_true rfl) ⟨Nat.le_refl _, Nat.le_refl _⟩ (fun H locs hw => ?_)
        rw [f_3, f_4]
        refine lv_if_eq (tgt := 90) hx hb dX4_sure_83 (by decide) (fun hc83 => ?_) (fun hc83 => ?_)
        · refine lv_aload_n hx hb dX4_sure_90 rfl (lv_at hl 1 rfl) ?_
          refine bk_g C i4 hw hbk 4 (by decide) (v := .ref (B 1)) rfl dX4_sure_91 lk27 ?_
          refine lv_bipush (v := nI 10) hx hb dX4_sure_94 (by decide) ?_
          refine sv_v (As := [.int (nI 10)]) (rest := []) C (v3_multiply _ _ _ _ _ hS (B 1) (nI 10) (bk_in hbk (i := 1) (by omega)) (by rw [f_1]; exact su_b he1 (by omega))) (cwV 1 hts gX4_sure_X3_multiply rfl rfl rfl (by decide +kernel) ⟨Nat.le_of_ble_eq_true rfl, Nat.le_of_ble_eq_true rfl⟩) hsz hw (bd_recv C hw (bk_in hbk (i := 1) (by omega))) dX4_sure_96 rfl hl.1 rfl (Nat.le_of_ble_eq_true rfl) ⟨Nat.le_refl _, Nat.le_refl _⟩ (fun z sg H locs hv9 hf9 hS hw => ?_)
          have fT9 : sg (B 1) = ((mu kn - ra kn) * ((10 ^ (t + 1) : Nat) : Int)) := hv9.trans (by rw [f_1]; exact su_m)
          have f_2 : sg (B 2) = ((mu kn + ra kn) * ((10 ^ t : Nat) : Int)) := (hf9 (B 2) (bk_ne hbk (i := 2) (j := 1) (by omega) (by omega) (by omega))).trans f_2
          have f_3 : sg (B 3) = (((mu kn - ra kn) * ((10 ^ t : Nat) : Int)) / dk_p P) := (hf9 (B 3) (bk_ne hbk (i := 3) (j := 1) (by omega) (by omega) (by omega))).trans f_3
          have f_4 : sg (B 4) = (((mu kn + ra kn) * ((10 ^ t : Nat) : Int)) / dk_p P) := (hf9 (B 4) (bk_ne hbk (i := 4) (j := 1) (by omega) (by omega) (by omega))).trans f_4
          have f_1 := fT9
          have hof : ∀ j, (j = 0 ∨ 8 ≤ j) → j < 32 → sg (B j) = sg0 (B j) := fun j h1 h2 => (hf9 (B j) (bk_ne hbk (i := j) (j := 1) (by omega) (by omega) (by omega))).trans (hof j h1 h2)
          have hfi : fn_iv (P + 64) (bk_A B) sg := fn_ivm hfi (hf9 (bk_A B 1) (bk_ne hbk (i := 31 + 1) (j := 1) (by decide) (by decide) (by decide))) (hf9 (bk_A B 2) (bk_ne hbk (i := 31 + 2) (j := 1) (by decide) (by decide) (by decide))) (hf9 (bk_A B 3) (bk_ne hbk (i := 31 + 3) (j := 1) (by decide) (by decide) (by decide)))
          refine lv_aload_n hx hb dX4_sure_99 rfl (lv_at hl 1 rfl) ?_
          refine bk_g C i4 hw hbk 5 (by decide) (v := .ref (B 2)) rfl dX4_sure_100 lk30 ?_
          refine lv_bipush (v := nI 10) hx hb dX4_sure_103 (by decide) ?_
          refine sv_v (As := [.int (nI 10)]) (rest := []) C (v3_multiply _ _ _ _ _ hS (B 2) (nI 10) (bk_in hbk (i := 2) (by omega)) (by rw [f_2]; exact su_b he2 (by omega))) (cwV 1 hts gX4_sure_X3_multiply rfl rfl rfl (by decide +kernel) ⟨Nat.le_of_ble_eq_true rfl, Nat.le_of_ble_eq_true rfl⟩) hsz hw (bd_recv C hw (bk_in hbk (i := 2) (by omega))) dX4_sure_105 rfl hl.1 rfl (Nat.le_of_ble_eq_true rfl) ⟨Nat.le_refl _, Nat.le_refl _⟩ (fun z sg H locs hv9 hf9 hS hw => ?_)
          have fT9 : sg (B 2) = ((mu kn + ra kn) * ((10 ^ (t + 1) : Nat) : Int)) := hv9.trans (by rw [f_2]; exact su_m)
          have f_1 : sg (B 1) = ((mu kn - ra kn) * ((10 ^ (t + 1) : Nat) : Int)) := (hf9 (B 1) (bk_ne hbk (i := 1) (j := 2) (by omega) (by omega) (by omega))).trans f_1
          have f_3 : sg (B 3) = (((mu kn - ra kn) * ((10 ^ t : Nat) : Int)) / dk_p P) := (hf9 (B 3) (bk_ne hbk (i := 3) (j := 2) (by omega) (by omega) (by omega))).trans f_3
          have f_4 : sg (B 4) = (((mu kn + ra kn) * ((10 ^ t : Nat) : Int)) / dk_p P) := (hf9 (B 4) (bk_ne hbk (i := 4) (j := 2) (by omega) (by omega) (by omega))).trans f_4
          have f_2 := fT9
          have hof : ∀ j, (j = 0 ∨ 8 ≤ j) → j < 32 → sg (B j) = sg0 (B j) := fun j h1 h2 => (hf9 (B j) (bk_ne hbk (i := j) (j := 2) (by omega) (by omega) (by omega))).trans (hof j h1 h2)
          have hfi : fn_iv (P + 64) (bk_A B) sg := fn_ivm hfi (hf9 (bk_A B 1) (bk_ne hbk (i := 31 + 1) (j := 2) (by decide) (by decide) (by decide))) (hf9 (bk_A B 2) (bk_ne hbk (i := 31 + 2) (j := 2) (by decide) (by decide) (by decide))) (hf9 (bk_A B 3) (bk_ne hbk (i := 31 + 3) (j := 2) (by decide) (by decide) (by decide)))
          refine lv_iinc (v := (nI (t + 1))) (lv' := [(2, .int (nI (t + 1))), (0, .ref (a 0)), (1, .int (nI kn))]) hx hb dX4_sure_108 hl (k := 0) rfl (nI_1 _) (by decide) rfl (fun ls hl => ?_)
          refine lv_goto (tgt := 22) hx hb dX4_sure_111 (by decide) ?_
          exact ih (d9 - 1) (by omega) (t + 1) z sg ls H locs (by omega) hS f_1 f_2 (su_s hag (q3_eq.mp hc83)) hof hfi (lv_sub hl [0, 1, 2] rfl) hw
        · refine lv_iload_n hx hb dX4_sure_86 rfl (lv_at hl 0 rfl) ?_
          refine lv_iconst (v := nI 1) hx hb dX4_sure_87 (by decide) ?_
          refine bd_isub (v := (nI t - nI 1)) hx hb dX4_sure_88 (rfl) ?_
          have hd : dk_sure P (nI kn) mu ra = (nI t - nI 1) := dk_sureq hpl_kn hx_kn ⟨t, by omega, hag, fun _ q => hc83 (q3_eq.mpr q), rfl⟩
          exact bd_iret C hr hlk hw dX4_sure_89 ⟨hd.symm, hbk, sg, hS, bk_ivm hiv hof hfi⟩
  · have hno := pl_f hc4
    refine lv_bipush (v := (-2)) hx hb dX4_sure_7 (by decide) ?_
    have hd : dk_sure P k mu ra = (-2) := if_neg hno
    exact bd_iret C hr hlk hw dX4_sure_9 ⟨hd.symm, hbk, sg0, hS, bk_ivm hiv hof hfi⟩
set_option maxHeartbeats 4000000 in
set_option maxRecDepth 100000 in
/-- BallDesk.count -/
theorem c4_count (l : Launch) (K : Cxt) (E0 : Nat → va_E) (z0 : Nat → Wh) (sz : Nat) {P : Nat} {a B : Nat → Nat} (hbk : bk_at K E0 P a B) {sg0 : Nat → Int} (hS : sg_S K z0 sg0) {mu ra : Nat → Int} (hiv : bk_iv P B sg0 mu ra) (k : Int32)  : Met l yX4_count wsX4_count ({ frames := 7, cells := 0, slots := 0, locals := 240 }) (va_Pc [.ref (a 0), .int k] (bd_P K E0 z0 sz)) (va_Qi (bk_post K P a B (dk_count P k mu ra, mu, ra)) (bd_B K) (bd_A K sz)) 0 0 (bd_A K sz) := by
  refine bd_ofW (cc := cX4_count) (maxL := 5) (ret := (some .int)) (by decide) rfl (Nat.le_of_ble_eq_true rfl) ?_
  intro p e s m below meth c ls C hr hlk hsz hw hl
  have hx := C.1
  have hb := C.2.1
  have hown := C.2.2.2.1
  have hts := C.2.2.2.2.1
  have i4 : ∀ w ∈ wsX40, w ∈ wsX4_count := by decide +kernel
  have ib0 : ∀ w ∈ wsX00, w ∈ wsX4_count := by decide +kernel
  have lk18 : Cond.fieldLink RX4 18 "BallDesk" "places" "[LBallDesk$Ball;" ∈ wsX4_count := by decide +kernel
  have lk85 : Cond.fieldLink RX4 85 "BallDesk$Ball" "middle" "LBallDesk$Whole;" ∈ wsX4_count := by decide +kernel
  have lk92 : Cond.fieldLink RX4 92 "BallDesk$Ball" "radius" "LBallDesk$Whole;" ∈ wsX4_count := by decide +kernel
  have lk58 : Cond.fieldLink RX4 58 "BallDesk" "bits" "I" ∈ wsX4_count := by decide +kernel
  obtain ⟨hP1, hP2⟩ := bk_P hbk
  have hl : lv_has ls 5 [(0, .ref (a 0)), (1, .int k)] := hl
  have hof : ∀ j, (j = 0 ∨ 8 ≤ j) → j < 32 → sg0 (B j) = sg0 (B j) := fun _ _ _ => rfl
  have hfi := hiv.2.1
  refine lv_iload_n hx hb dX4_count_0 rfl (lv_at hl 1 rfl) ?_
  refine lv_if_ne (tgt := 9) hx hb dX4_count_1 (by decide) (fun hc1 => ?_) (fun hc1 => ?_)
  · have hk0 : ¬ k = 0 := hc1
    refine lv_iload_n hx hb dX4_count_9 rfl (lv_at hl 1 rfl) ?_
    refine lv_iconst (v := nI 1) hx hb dX4_count_10 (by decide) ?_
    refine lv_icmp_eq (tgt := 21) hx hb dX4_count_11 (by decide) (fun hc11 => ?_) (fun hc11 => ?_)
    · subst hc11
      refine lv_iconst (v := nI 0) hx hb dX4_count_21 (by decide) ?_
      refine lv_istore_n (lv' := [(2, .int (nI 0)), (0, .ref (a 0)), (1, .int (nI 1))]) hx hb dX4_count_22 rfl hl (by decide) rfl (fun ls hl => ?_)
      refine lv_iconst (v := nI 0) hx hb dX4_count_23 (by decide) ?_
      refine lv_istore_n (lv' := [(3, .int (nI 0)), (2, .int (nI 0)), (0, .ref (a 0)), (1, .int (nI 1))]) hx hb dX4_count_24 rfl hl (by decide) rfl (fun ls hl => ?_)
      suffices hloop : ∀ (d9 n9 : Nat) (ls : Array Slot) (H : Heap) (locs : List Loc), n9 + d9 = 12 → lv_has ls 5 [(2, .int (nI (dk_mx P mu n9))), (3, .int (nI n9)), (0, .ref (a 0)), (1, .int (nI 1))] → bd_W K E0 z0 (bd_A K sz) s.heap H locs → W p l e (headSpec wsX4_count ({ frames := 7, cells := 0, slots := 0, locals := 240 })).room s m [.ref (a 0), .int (nI 1)].toArray below meth c H locs 0 0 (MQ below (va_Qi (bk_post K P a B (dk_count P (nI 1) mu ra, mu, ra)) (bd_B K) (bd_A K sz)) [.ref (a 0), .int (nI 1)].toArray s 0 0 (bd_A K sz)) (F0 m 25 ls []) from hloop 12 0 ls _ _ (by omega) (lv_sub hl [1, 0, 2, 3] rfl) hw
      clear hw hl ls
      intro d9
      induction d9 using Nat.strongRecOn with
      | ind d9 ih =>
        intro n9 ls H locs hjd hl hw
        refine lv_iload_n hx hb dX4_count_25 rfl (lv_at hl 1 rfl) ?_
        refine lv_bipush (v := nI 12) hx hb dX4_count_26 (by decide) ?_
        refine bd_ige (h1 := by omega) (h2 := by omega) (tgt := 75) hx hb dX4_count_28 (by decide) (fun hc28 => ?_) (fun hc28 => ?_)
        · have hn12 : n9 = 12 := by omega
          subst hn12
          refine lv_iload_n hx hb dX4_count_75 rfl (lv_at hl 0 rfl) ?_
          have hd : dk_count P (nI 1) mu ra = (nI (dk_mx P mu 12)) := rfl
          exact bd_iret C hr hlk hw dX4_count_76 ⟨hd.symm, hbk, sg0, hS, bk_ivm hiv hof hfi⟩
        · have hn9 : n9 < 12 := hc28
          obtain ⟨hbm_n9, hb0_n9, hbr_n9⟩ := bk_b hP2 hiv hn9
          have hmx9 := mx_b (P := P) (f := mu) 12 (fun j hj => (bk_b hP2 hiv hj).1) n9 (by omega)
          have hbl9 := mx_q hbm_n9
          refine lv_iload_n hx hb dX4_count_31 rfl (lv_at hl 3 rfl) ?_
          refine lv_iconst (v := nI 1) hx hb dX4_count_32 (by decide) ?_
          refine bd_ine (h1 := by omega) (h2 := by omega) (tgt := 48) hx hb dX4_count_33 (by decide) (fun hc33 => ?_) (fun hc33 => ?_)
          · exact absurd rfl hc33
          · refine lv_aload_n hx hb dX4_count_36 rfl (lv_at hl 2 rfl) ?_
            refine bk_g C i4 hw hbk 2 (by decide) (v := .ref (a 1)) rfl dX4_count_37 lk18 ?_
            refine lv_iload_n hx hb dX4_count_40 rfl (lv_at hl 1 rfl) ?_
            refine bk_ald C hw hbk hn9 dX4_count_41 ?_
            refine bl_gm C ib0 hw (bk_pl hbk (k := n9) hn9) dX4_count_42 lk85 ?_
            refine lv_goto (tgt := 57) hx hb dX4_count_45 (by decide) ?_
            refine lv_astore (lv' := [(4, .ref (B (8 + n9))), (2, .int (nI (dk_mx P mu n9))), (3, .int (nI n9)), (0, .ref (a 0)), (1, .int (nI 1))]) hx hb dX4_count_57 hl (by decide) rfl (fun ls hl => ?_)
            refine lv_iload_n hx hb dX4_count_59 rfl (lv_at hl 1 rfl) ?_
            refine lv_aload hx hb dX4_count_60 (lv_at hl 0 rfl) ?_
            have fm_n9 : sg0 (B (8 + n9)) = mu n9 := (hof (8 + n9) (by omega) (by omega)).trans (hiv.2.2 n9 hn9).1
            refine bd_cip (As := []) (rest := [.int (nI (dk_mx P mu n9))]) C (v3_bits _ _ _ _ _ hS (B (8 + n9)) (bk_in hbk (i := (8 + n9)) (by omega))) (cwV 0 hts gX4_count_X3_bits rfl rfl rfl (by decide +kernel) ⟨Nat.le_of_ble_eq_true rfl, Nat.le_of_ble_eq_true rfl⟩) hsz hw (bd_recv C hw (bk_in hbk (i := (8 + n9)) (by omega))) dX4_count_62 rfl hl.1 rfl (Nat.le_of_ble_eq_true rfl) ⟨Nat.le_refl _, Nat.le_refl _⟩ (fun H locs hw => ?_)
            rw [fm_n9]
            refine bd_max (v := dk_mx P mu (n9 + 1)) C hl.1 (by omega) (by omega) rfl dX4_count_65 (by decide +kernel) (by decide +kernel) (by decide +kernel) (by decide +kernel) (Nat.le_of_ble_eq_true rfl) (Nat.le_of_ble_eq_true rfl) ⟨Nat.le_refl _, Nat.le_refl _⟩ ?_
            refine lv_istore_n (lv' := [(2, .int (nI (dk_mx P mu (n9 + 1)))), (4, .ref (B (8 + n9))), (3, .int (nI n9)), (0, .ref (a 0)), (1, .int (nI 1))]) hx hb dX4_count_68 rfl hl (by decide) rfl (fun ls hl => ?_)
            refine lv_iinc (v := (nI (n9 + 1))) (lv' := [(3, .int (nI (n9 + 1))), (2, .int (nI (dk_mx P mu (n9 + 1)))), (4, .ref (B (8 + n9))), (0, .ref (a 0)), (1, .int (nI 1))]) hx hb dX4_count_69 hl (k := 2) rfl (nI_1 _) (by decide) rfl (fun ls hl => ?_)
            refine lv_goto (tgt := 25) hx hb dX4_count_72 (by decide) ?_
            exact ih (d9 - 1) (by omega) (n9 + 1) ls H locs (by omega) (lv_sub hl [1, 0, 3, 4] rfl) hw
    · refine lv_iload_n hx hb dX4_count_14 rfl (lv_at hl 1 rfl) ?_
      refine lv_iconst (v := nI 2) hx hb dX4_count_15 (by decide) ?_
      refine lv_icmp_eq (tgt := 21) hx hb dX4_count_16 (by decide) (fun hc16 => ?_) (fun hc16 => ?_)
      · subst hc16
        refine lv_iconst (v := nI 0) hx hb dX4_count_21 (by decide) ?_
        refine lv_istore_n (lv' := [(2, .int (nI 0)), (0, .ref (a 0)), (1, .int (nI 2))]) hx hb dX4_count_22 rfl hl (by decide) rfl (fun ls hl => ?_)
        refine lv_iconst (v := nI 0) hx hb dX4_count_23 (by decide) ?_
        refine lv_istore_n (lv' := [(3, .int (nI 0)), (2, .int (nI 0)), (0, .ref (a 0)), (1, .int (nI 2))]) hx hb dX4_count_24 rfl hl (by decide) rfl (fun ls hl => ?_)
        suffices hloop : ∀ (d9 n9 : Nat) (ls : Array Slot) (H : Heap) (locs : List Loc), n9 + d9 = 12 → lv_has ls 5 [(2, .int (nI (dk_mx P ra n9))), (3, .int (nI n9)), (0, .ref (a 0)), (1, .int (nI 2))] → bd_W K E0 z0 (bd_A K sz) s.heap H locs → W p l e (headSpec wsX4_count ({ frames := 7, cells := 0, slots := 0, locals := 240 })).room s m [.ref (a 0), .int (nI 2)].toArray below meth c H locs 0 0 (MQ below (va_Qi (bk_post K P a B (dk_count P (nI 2) mu ra, mu, ra)) (bd_B K) (bd_A K sz)) [.ref (a 0), .int (nI 2)].toArray s 0 0 (bd_A K sz)) (F0 m 25 ls []) from hloop 12 0 ls _ _ (by omega) (lv_sub hl [1, 0, 2, 3] rfl) hw
        clear hw hl ls
        intro d9
        induction d9 using Nat.strongRecOn with
        | ind d9 ih =>
          intro n9 ls H locs hjd hl hw
          refine lv_iload_n hx hb dX4_count_25 rfl (lv_at hl 1 rfl) ?_
          refine lv_bipush (v := nI 12) hx hb dX4_count_26 (by decide) ?_
          refine bd_ige (h1 := by omega) (h2 := by omega) (tgt := 75) hx hb dX4_count_28 (by decide) (fun hc28 => ?_) (fun hc28 => ?_)
          · have hn12 : n9 = 12 := by omega
            subst hn12
            refine lv_iload_n hx hb dX4_count_75 rfl (lv_at hl 0 rfl) ?_
            have hd : dk_count P (nI 2) mu ra = (nI (dk_mx P ra 12)) := rfl
            exact bd_iret C hr hlk hw dX4_count_76 ⟨hd.symm, hbk, sg0, hS, bk_ivm hiv hof hfi⟩
          · have hn9 : n9 < 12 := hc28
            obtain ⟨hbm_n9, hb0_n9, hbr_n9⟩ := bk_b hP2 hiv hn9
            have hmx9 := mx_b (P := P) (f := ra) 12 (fun j hj => (bk_b hP2 hiv hj).2.2) n9 (by omega)
            have hbl9 := mx_q hbr_n9
            refine lv_iload_n hx hb dX4_count_31 rfl (lv_at hl 3 rfl) ?_
            refine lv_iconst (v := nI 1) hx hb dX4_count_32 (by decide) ?_
            refine bd_ine (h1 := by omega) (h2 := by omega) (tgt := 48) hx hb dX4_count_33 (by decide) (fun hc33 => ?_) (fun hc33 => ?_)
            · refine lv_aload_n hx hb dX4_count_48 rfl (lv_at hl 2 rfl) ?_
              refine bk_g C i4 hw hbk 2 (by decide) (v := .ref (a 1)) rfl dX4_count_49 lk18 ?_
              refine lv_iload_n hx hb dX4_count_52 rfl (lv_at hl 1 rfl) ?_
              refine bk_ald C hw hbk hn9 dX4_count_53 ?_
              refine bl_gr C ib0 hw (bk_pl hbk (k := n9) hn9) dX4_count_54 lk92 ?_
              refine lv_astore (lv' := [(4, .ref (B (20 + n9))), (2, .int (nI (dk_mx P ra n9))), (3, .int (nI n9)), (0, .ref (a 0)), (1, .int (nI 2))]) hx hb dX4_count_57 hl (by decide) rfl (fun ls hl => ?_)
              refine lv_iload_n hx hb dX4_count_59 rfl (lv_at hl 1 rfl) ?_
              refine lv_aload hx hb dX4_count_60 (lv_at hl 0 rfl) ?_
              have fr_n9 : sg0 (B (20 + n9)) = ra n9 := (hof (20 + n9) (by omega) (by omega)).trans (hiv.2.2 n9 hn9).2.1
              refine bd_cip (As := []) (rest := [.int (nI (dk_mx P ra n9))]) C (v3_bits _ _ _ _ _ hS (B (20 + n9)) (bk_in hbk (i := (20 + n9)) (by omega))) (cwV 0 hts gX4_count_X3_bits rfl rfl rfl (by decide +kernel) ⟨Nat.le_of_ble_eq_true rfl, Nat.le_of_ble_eq_true rfl⟩) hsz hw (bd_recv C hw (bk_in hbk (i := (20 + n9)) (by omega))) dX4_count_62 rfl hl.1 rfl (Nat.le_of_ble_eq_true rfl) ⟨Nat.le_refl _, Nat.le_refl _⟩ (fun H locs hw => ?_)
              rw [fr_n9]
              refine bd_max (v := dk_mx P ra (n9 + 1)) C hl.1 (by omega) (by omega) rfl dX4_count_65 (by decide +kernel) (by decide +kernel) (by decide +kernel) (by decide +kernel) (Nat.le_of_ble_eq_true rfl) (Nat.le_of_ble_eq_true rfl) ⟨Nat.le_refl _, Nat.le_refl _⟩ ?_
              refine lv_istore_n (lv' := [(2, .int (nI (dk_mx P ra (n9 + 1)))), (4, .ref (B (20 + n9))), (3, .int (nI n9)), (0, .ref (a 0)), (1, .int (nI 2))]) hx hb dX4_count_68 rfl hl (by decide) rfl (fun ls hl => ?_)
              refine lv_iinc (v := (nI (n9 + 1))) (lv' := [(3, .int (nI (n9 + 1))), (2, .int (nI (dk_mx P ra (n9 + 1)))), (4, .ref (B (20 + n9))), (0, .ref (a 0)), (1, .int (nI 2))]) hx hb dX4_count_69 hl (k := 2) rfl (nI_1 _) (by decide) rfl (fun ls hl => ?_)
              refine lv_goto (tgt := 25) hx hb dX4_count_72 (by decide) ?_
              exact ih (d9 - 1) (by omega) (n9 + 1) ls H locs (by omega) (lv_sub hl [1, 0, 3, 4] rfl) hw
            · exact absurd hc33 (by decide)
      · refine lv_iconst (v := (-1)) hx hb dX4_count_19 (by decide) ?_
        have hd : dk_count P k mu ra = (-1) := by unfold dk_count; rw [if_neg hk0, if_neg (show ¬ k = 1 from hc11), if_neg (show ¬ k = 2 from hc16)]
        exact bd_iret C hr hlk hw dX4_count_20 ⟨hd.symm, hbk, sg0, hS, bk_ivm hiv hof hfi⟩
  · have hk0 : k = 0 := hc1
    refine lv_aload_n hx hb dX4_count_4 rfl (lv_at hl 0 rfl) ?_
    refine bk_g C i4 hw hbk 0 (by decide) (v := .int (nI P)) rfl dX4_count_5 lk58 ?_
    have hd : dk_count P k mu ra = (nI P) := if_pos hk0
    exact bd_iret C hr hlk hw dX4_count_8 ⟨hd.symm, hbk, sg0, hS, bk_ivm hiv hof hfi⟩
