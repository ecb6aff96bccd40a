/-! the model: limb (laid by wip/gen/m_mod14.py) -/
def dk_limv (lb : Int32) (v : Int) : Int32 × Int64 := if lb = -1 then (0, (q_sg v).toInt64) else if lb.toInt < 0 ∨ ((max 1 ((q_bl v.natAbs + 31) / 32) : Nat) : Int) ≤ lb.toInt then (1, 0) else (0, lN (v.natAbs / 2 ^ (32 * lb.toInt.toNat) % 4294967296))
/-- limb: whether it throws (1), and the answer -/
def dk_limb (k part lb : Int32) (mu ra : Nat → Int) : Int32 × Int64 := if dk_pl k ∧ 0 ≤ part.toInt ∧ part.toInt ≤ 3 then dk_limv lb (dk_part part.toInt.toNat (mu (dk_ix k)) (ra (dk_ix k))) else (0, -2)
theorem lm_t {x : Int32} (h1 : 0 ≤ x.toInt) (h2 : x.toInt ≤ 3) : ∃ n : Nat, n ≤ 3 ∧ x = nI n := by
  refine ⟨x.toInt.toNat, by omega, ?_⟩
  apply Int32.toInt_inj.mp
  rw [nI_toInt (by omega)]
  omega
theorem lm_q {x : Int32} (h1 : 0 ≤ x.toInt) : ∃ n : Nat, n < 2 ^ 31 ∧ x = nI n := by
  have h2 := Int32.toInt_lt x
  refine ⟨x.toInt.toNat, by omega, ?_⟩
  apply Int32.toInt_inj.mp
  rw [nI_toInt (by omega)]
  omega
theorem lm_v {kn tn : Nat} {lb : Int32} {mu ra : Nat → Int} {pv : Int} (hp : dk_pl (nI kn)) (hx : dk_ix (nI kn) = kn) (ht : tn ≤ 3) (hv : pv = dk_part tn (mu kn) (ra kn)) : dk_limb (nI kn) (nI tn) lb mu ra = dk_limv lb pv := by
  have h1 : (nI tn).toInt = (tn : Int) := nI_toInt (by omega)
  unfold dk_limb
  rw [h1, if_pos ⟨hp, by omega, by omega⟩, hx, hv, Int.toNat_natCast]
theorem lm_0 {x : Int32} (h : ¬ x = -1) (h2 : ¬ x.toInt < (-1 : Int32).toInt) : 0 ≤ x.toInt := by
  have h1 : (-1 : Int32).toInt = -1 := rfl
  rw [h1] at h2
  have h3 : x.toInt ≠ -1 := fun q => h (Int32.toInt_inj.mp (q.trans h1.symm))
  omega
theorem mv_lt {K : Cxt} {E : Nat → va_E} {mo : Nat → Nat} {th : Int32} {P : Nat} {rg : Nat → Int} (hv : md_v K E mo th P rg) {r : Nat} (hr : r < 60) : (rg r).natAbs < 16777216 ^ 34 := by
  obtain ⟨F, G, S, R, hm, hi⟩ := hv
  obtain ⟨a, b, d⟩ := hi r hr
  rw [← b]
  exact h_lt a
theorem lm_hi {A b : Nat} (h : A < 16777216 ^ 34) (hb : 34 ≤ b / 24) : A / 2 ^ b % 2 = 0 := by
  rw [hP] at h
  rw [Nat.div_eq_of_lt (Nat.lt_of_lt_of_le h (Nat.pow_le_pow_right (by decide) (by omega)))]
theorem lm_st {A q j : Nat} (hj : j < 32) : A / 2 ^ (32 * q + j) % 2 ^ (32 - j) = 2 * (A / 2 ^ (32 * q + (j + 1)) % 2 ^ (32 - (j + 1))) + A / 2 ^ (32 * q + j) % 2 := by
  have e1 : A / 2 ^ (32 * q + (j + 1)) = A / 2 ^ (32 * q + j) / 2 := by
    rw [show 32 * q + (j + 1) = 32 * q + j + 1 by omega, Nat.pow_succ, Nat.div_div_eq_div_mul]
  rw [e1]
  generalize A / 2 ^ (32 * q + j) = X
  rw [show 32 - j = (32 - (j + 1)) + 1 by omega, Nat.pow_succ, Nat.mul_comm (2 ^ _) 2, Nat.mod_mul]
  omega
theorem lm_end {q : Nat} {pv : Int} (h1 : ¬ nI q = -1) (h2 : (nI q).toInt = (q : Int)) (h3 : (q : Int) < ((max 1 ((q_bl pv.natAbs + 31) / 32) : Nat) : Int)) : dk_limv (nI q) pv = (nI 0, lN (pv.natAbs / 2 ^ (32 * q + 0) % 2 ^ (32 - 0))) := by
  unfold dk_limv
  rw [if_neg h1, if_neg (by rw [h2]; omega), h2, Int.toNat_natCast]
  rfl
theorem hq14_0 { j : Nat} (hj : j < 24 ∨ (26 ≤ j ∧ j ≤ 28)) : j ≠ 24 ∧ j ≠ 25 := by omega
set_option maxHeartbeats 4000000 in
set_option maxRecDepth 100000 in
/-- limb -/
theorem v5_limb (l : Launch) (K : Cxt) (E0 : Nat → va_E) (z0 : Nat → Wh) (sz : Nat) {mo : Nat → Nat} {th : Int32} {P : Nat} {rg0 : Nat → Int} (hv : md_v K E0 mo th P rg0) {mu ra : Nat → Int} (hiv : md_iv P rg0 mu ra) (k part lb : Int32)  : Met l yX5_limb wsX5_limb ({ frames := 8, cells := 0, slots := 0, locals := 280 }) (va_Pc [.ref (mo 0), .int k, .int part, .int lb] (bd_P K E0 z0 sz)) (va_Ql (fun r u => r = (dk_limb k part lb mu ra).2 ∧ ∃ rg : Nat → Int, md_v K u.1 mo (dk_limb k part lb mu ra).1 P rg ∧ md_iv P rg mu ra) (bd_B K) (bd_A K sz)) 0 0 (bd_A K sz) := by
  refine bd_ofW (cc := cX5_limb) (maxL := 10) (ret := (some .long)) (by decide) rfl (Nat.le_of_ble_eq_true rfl) ?_
  intro p e s m below meth c ls C hr hlk hsz hw hl
  have hx := C.1
  have hb := C.2.1
  have hown := C.2.2.2.1
  have hts := C.2.2.2.2.1
  have i5 : ∀ w ∈ wsX50, w ∈ wsX5_limb := by decide +kernel
  have lk48 : Cond.fieldLink RX5 48 "BallDeskModel" "thrown" "I" ∈ wsX5_limb := by decide +kernel
  have lk154 : Cond.constantLong RX5 154 (-2) ∈ wsX5_limb := by decide +kernel
  have lk152 : Cond.constantLong RX5 152 (2) ∈ wsX5_limb := by decide +kernel
  have lk13 : Cond.fieldLink RX5 13 "BallDeskModel" "signs" "[I" ∈ wsX5_limb := by decide +kernel
  have hl : lv_has ls 10 [(0, .ref (mo 0)), (1, .int k), (2, .int part), (3, .int lb)] := hl
  obtain ⟨hP1, hP2⟩ := mv_P hv
  have hp192 : (2 : Nat) ^ P ≤ 2 ^ 192 := Nat.pow_le_pow_right (by decide) hP2
  have hP816 : P < 816 := by omega
  have hP64 : P + 64 < 816 := by omega
  have hP128 : 2 * (P + 64) < 816 := by omega
  have hof : ∀ j, j < 24 ∨ (26 ≤ j ∧ j ≤ 28) → rg0 j = rg0 j := fun _ _ => rfl
  refine lv_aload_n hx hb dX5_limb_0 rfl (lv_at hl 0 rfl) ?_
  refine lv_iconst (v := nI 0) hx hb dX5_limb_1 (by decide) ?_
  refine mv_pt C i5 hw hv dX5_limb_2 lk48 (fun E H locs hv hw => ?_)
  refine lv_iload_n hx hb dX5_limb_5 rfl (lv_at hl 1 rfl) ?_
  refine bd_sip (As := [.int k]) (rest := []) C (c5_isPlace _ _ _ _ _ k) (va_cwS 1 hts gX5_limb_X5_isPlace rfl rfl rfl (by decide +kernel) ⟨Nat.le_of_ble_eq_true rfl, Nat.le_of_ble_eq_true rfl⟩) hsz hw dX5_limb_6 rfl hl.1 rfl (Nat.le_of_ble_eq_true rfl) ⟨Nat.le_refl _, Nat.le_refl _⟩ (fun H locs hw => ?_)
  refine lv_if_eq (tgt := 21) hx hb dX5_limb_9 (by decide) (fun hc9 => ?_) (fun hc9 => ?_)
  · have hno := pl_f hc9
    refine lv_ldc2 (v := -2) hx hb hown (hts _ lk154) dX5_limb_21 ?_
    have hd : dk_limb k part lb mu ra = (nI 0, (-2)) := if_neg (fun q => hno q.1)
    exact bd_lret C hr hlk hw dX5_limb_24 (by rw [hd]; exact ⟨rfl, _, hv, md_ivm hiv hof⟩)
  · have hpl_kn := pl_t hc9
    obtain ⟨kn, hkn, hk_kn, hx_kn⟩ := pl_x hpl_kn
    subst hk_kn
    obtain ⟨hbm_kn, hb0_kn, hbr_kn⟩ := md_b hP2 hiv hkn
    have f_kn : rg0 kn = mu kn := (hof kn (by omega)).trans (hiv.2.2.2 kn hkn).1
    have f_12kn : rg0 (12 + kn) = ra kn := (hof (12 + kn) (by omega)).trans (hiv.2.2.2 kn hkn).2.1
    change hid _ at hbm_kn hbr_kn
    refine lv_iload_n hx hb dX5_limb_12 rfl (lv_at hl 2 rfl) ?_
    refine lv_if_lt (tgt := 21) hx hb dX5_limb_13 (by decide) (fun hc13 => ?_) (fun hc13 => ?_)
    · have hno : ¬ 0 ≤ part.toInt := Int.not_le.mpr (Int32.lt_iff_toInt_lt.mp hc13)
      refine lv_ldc2 (v := -2) hx hb hown (hts _ lk154) dX5_limb_21 ?_
      have hd : dk_limb (nI kn) part lb mu ra = (nI 0, (-2)) := if_neg (fun q => hno q.2.1)
      exact bd_lret C hr hlk hw dX5_limb_24 (by rw [hd]; exact ⟨rfl, _, hv, md_ivm hiv hof⟩)
    · have hp0 : 0 ≤ part.toInt := Int.not_lt.mp (fun q => hc13 (Int32.lt_iff_toInt_lt.mpr q))
      refine lv_iload_n hx hb dX5_limb_16 rfl (lv_at hl 2 rfl) ?_
      refine lv_iconst (v := nI 3) hx hb dX5_limb_17 (by decide) ?_
      refine lv_icmp_le (tgt := 25) hx hb dX5_limb_18 (by decide) (fun hc18 => ?_) (fun hc18 => ?_)
      · have hp3 : part.toInt ≤ 3 := Int32.le_iff_toInt_le.mp hc18
        obtain ⟨tn, htn, hte⟩ := lm_t hp0 hp3
        subst hte
        obtain ⟨he1, he2⟩ := e_b hbm_kn hbr_kn
        change hid _ at he1 he2
        refine lv_aload_n hx hb dX5_limb_25 rfl (lv_at hl 0 rfl) ?_
        refine lv_iload_n hx hb dX5_limb_26 rfl (lv_at hl 1 rfl) ?_
        refine bd_cv (As := [.int (nI kn)]) (rest := []) C (v5_ends _ _ _ _ _ hv kn hkn (by rw [f_kn]; exact hbm_kn) (by rw [f_12kn]; exact hbr_kn)) (cwV 1 hts gX5_limb_X5_ends rfl rfl rfl (by decide +kernel) ⟨Nat.le_of_ble_eq_true rfl, Nat.le_of_ble_eq_true rfl⟩) hsz hw (mv_recv C hw hv) dX5_limb_27 rfl hl.1 rfl (Nat.le_of_ble_eq_true rfl) ⟨Nat.le_refl _, Nat.le_refl _⟩ (fun E z H locs hp hw => ?_)
        obtain ⟨rg, hv, hv0_, hv1_, hf9⟩ := hp
        have fT0_ : rg 24 = (mu kn - ra kn) := hv0_.trans (by rw [f_kn, f_12kn])
        have fT1_ : rg 25 = (mu kn + ra kn) := hv1_.trans (by rw [f_kn, f_12kn])
        have f_kn : rg kn = mu kn := (hf9 kn (by omega)).trans f_kn
        have f_12kn : rg (12 + kn) = ra kn := (hf9 (12 + kn) (by omega)).trans f_12kn
        have f_24 := fT0_
        have f_25 := fT1_
        have hof : ∀ j, j < 24 ∨ (26 ≤ j ∧ j ≤ 28) → rg j = rg0 j := fun j hj => (hf9 j (hq14_0 hj)).trans (hof j hj)
        suffices hj62 : ∀ r : Nat, r < 60 → rg r = dk_part tn (mu kn) (ra kn) → W p l e (headSpec wsX5_limb ({ frames := 8, cells := 0, slots := 0, locals := 280 })).room s m [.ref (mo 0), .int (nI kn), .int (nI tn), .int lb].toArray below meth c H locs 0 0 (MQ below (va_Ql (fun r u => r = (dk_limb (nI kn) (nI tn) lb mu ra).2 ∧ ∃ rg : Nat → Int, md_v K u.1 mo (dk_limb (nI kn) (nI tn) lb mu ra).1 P rg ∧ md_iv P rg mu ra) (bd_B K) (bd_A K sz)) [.ref (mo 0), .int (nI kn), .int (nI tn), .int lb].toArray s 0 0 (bd_A K sz)) (F0 m 62 ls [.int (nI r)]) by
          refine lv_iload_n hx hb dX5_limb_30 rfl (lv_at hl 2 rfl) ?_
          refine bd_zne (h1 := (by omega)) (tgt := 38) hx hb dX5_limb_31 (by decide) (fun hc31 => ?_) (fun hc31 => ?_)
          · refine lv_iload_n hx hb dX5_limb_38 rfl (lv_at hl 2 rfl) ?_
            refine lv_iconst (v := nI 1) hx hb dX5_limb_39 (by decide) ?_
            refine bd_ine (h1 := (by omega)) (h2 := (by omega)) (tgt := 50) hx hb dX5_limb_40 (by decide) (fun hc40 => ?_) (fun hc40 => ?_)
            · refine lv_iload_n hx hb dX5_limb_50 rfl (lv_at hl 2 rfl) ?_
              refine lv_iconst (v := nI 2) hx hb dX5_limb_51 (by decide) ?_
              refine bd_ine (h1 := (by omega)) (h2 := (by omega)) (tgt := 60) hx hb dX5_limb_52 (by decide) (fun hc52 => ?_) (fun hc52 => ?_)
              · refine lv_bipush (v := nI 25) hx hb dX5_limb_60 (by decide) ?_
                exact hj62 25 (by omega) (f_25.trans (by rw [show tn = 3 by omega]; rfl))
              · refine lv_bipush (v := nI 24) hx hb dX5_limb_55 (by decide) ?_
                refine lv_goto (tgt := 62) hx hb dX5_limb_57 (by decide) ?_
                exact hj62 24 (by omega) (f_24.trans (by rw [show tn = 2 by omega]; rfl))
            · refine lv_bipush (v := nI 12) hx hb dX5_limb_43 (by decide) ?_
              refine lv_iload_n hx hb dX5_limb_45 rfl (lv_at hl 1 rfl) ?_
              refine bd_iadd (v := nI (12 + kn)) hx hb dX5_limb_46 (nI_add _ _) ?_
              refine lv_goto (tgt := 62) hx hb dX5_limb_47 (by decide) ?_
              exact hj62 (12 + kn) (by omega) (f_12kn.trans (by rw [show tn = 1 by omega]; rfl))
          · refine lv_iload_n hx hb dX5_limb_34 rfl (lv_at hl 1 rfl) ?_
            refine lv_goto (tgt := 62) hx hb dX5_limb_35 (by decide) ?_
            exact hj62 kn (by omega) (f_kn.trans (by rw [show tn = 0 by omega]; rfl))
        intro r hr60 f_r
        obtain ⟨pv, hpv⟩ : ∃ y, y = dk_part tn (mu kn) (ra kn) := ⟨_, rfl⟩
        rw [← hpv] at f_r
        have hlim : ∀ lb, dk_limb (nI kn) (nI tn) lb mu ra = dk_limv lb pv := fun lb => lm_v hpl_kn hx_kn htn hpv
        have hpb : q_bl pv.natAbs ≤ 816 := by rw [← f_r]; exact nI_blt2 hv hr60
        have hpf : pv.natAbs < 16777216 ^ 34 := by rw [← f_r]; exact mv_lt hv hr60
        refine lv_istore (lv' := [(4, .int (nI r)), (0, .ref (mo 0)), (1, .int (nI kn)), (2, .int (nI tn)), (3, .int lb)]) hx hb dX5_limb_62 hl (by decide) rfl (fun ls hl => ?_)
        refine lv_iload_n hx hb dX5_limb_64 rfl (lv_at hl 4 rfl) ?_
        refine lv_iconst (v := (-1)) hx hb dX5_limb_65 (by decide) ?_
        refine lv_icmp_ne (tgt := 78) hx hb dX5_limb_66 (by decide) (fun hc66 => ?_) (fun hc66 => ?_)
        · have hl1 : ¬ lb = -1 := hc66
          refine lv_aload_n hx hb dX5_limb_78 rfl (lv_at hl 1 rfl) ?_
          refine lv_iload hx hb dX5_limb_79 (lv_at hl 0 rfl) ?_
          refine bd_cip (As := [.int (nI r)]) (rest := []) C (v5_bits _ _ _ _ _ hv r (by omega)) (cwV 1 hts gX5_limb_X5_bits rfl rfl rfl (by decide +kernel) ⟨Nat.le_of_ble_eq_true rfl, Nat.le_of_ble_eq_true rfl⟩) hsz hw (mv_recv C hw hv) dX5_limb_81 rfl hl.1 rfl (Nat.le_of_ble_eq_true rfl) ⟨Nat.le_refl _, Nat.le_refl _⟩ (fun H locs hw => ?_)
          rw [f_r]
          refine lv_bipush (v := nI 31) hx hb dX5_limb_84 (by decide) ?_
          refine bd_iadd (v := (nI (q_bl pv.natAbs + 31))) hx hb dX5_limb_86 (nI_add _ _) ?_
          refine lv_bipush (v := nI 32) hx hb dX5_limb_87 (by decide) ?_
          refine bd_idiv (v := (nI ((q_bl pv.natAbs + 31) / 32))) hx hb dX5_limb_89 (by decide) (pk_div (by omega) (by decide) (by decide)) ?_
          refine lv_istore (lv' := [(5, .int (nI ((q_bl pv.natAbs + 31) / 32))), (4, .int (nI r)), (0, .ref (mo 0)), (1, .int (nI kn)), (2, .int (nI tn)), (3, .int lb)]) hx hb dX5_limb_90 hl (by decide) rfl (fun ls hl => ?_)
          refine lv_iload_n hx hb dX5_limb_92 rfl (lv_at hl 5 rfl) ?_
          refine lv_iconst (v := (-1)) hx hb dX5_limb_93 (by decide) ?_
          refine lv_icmp_lt (tgt := 112) hx hb dX5_limb_94 (by decide) (fun hc94 => ?_) (fun hc94 => ?_)
          · have hth : lb.toInt < 0 ∨ ((max 1 ((q_bl pv.natAbs + 31) / 32) : Nat) : Int) ≤ lb.toInt := Or.inl (by have := Int32.lt_iff_toInt_lt.mp hc94; have h1 : (-1 : Int32).toInt = -1 := rfl; omega)
            refine lv_aload_n hx hb dX5_limb_112 rfl (lv_at hl 2 rfl) ?_
            refine lv_iconst (v := nI 1) hx hb dX5_limb_113 (by decide) ?_
            refine mv_pt C i5 hw hv dX5_limb_114 lk48 (fun E H locs hv hw => ?_)
            refine lv_lconst (v := lN 0) hx hb dX5_limb_117 rfl ?_
            have hd : dk_limb (nI kn) (nI tn) lb mu ra = (nI 1, (lN 0)) := by rw [hlim]; unfold dk_limv; rw [if_neg hl1, if_pos hth]; rfl
            exact bd_lret C hr hlk hw dX5_limb_118 (by rw [hd]; exact ⟨rfl, _, hv, md_ivm hiv hof⟩)
          · have hge0 : 0 ≤ lb.toInt := lm_0 hl1 (fun q => hc94 (Int32.lt_iff_toInt_lt.mpr q))
            refine lv_iload_n hx hb dX5_limb_97 rfl (lv_at hl 5 rfl) ?_
            refine lv_iload hx hb dX5_limb_98 (lv_at hl 0 rfl) ?_
            refine bd_zne (h1 := (by omega)) (tgt := 107) hx hb dX5_limb_100 (by decide) (fun hc100 => ?_) (fun hc100 => ?_)
            · have hmx : max 1 ((q_bl pv.natAbs + 31) / 32) = ((q_bl pv.natAbs + 31) / 32) := Nat.max_eq_right hc100
              refine lv_iload hx hb dX5_limb_107 (lv_at hl 0 rfl) ?_
              refine lv_icmp_lt (tgt := 119) hx hb dX5_limb_109 (by decide) (fun hc109 => ?_) (fun hc109 => ?_)
              · have hlt9 : lb.toInt < ((max 1 ((q_bl pv.natAbs + 31) / 32) : Nat) : Int) := by have := Int32.lt_iff_toInt_lt.mp hc109; rw [nI_toInt (by omega)] at this; rw [hmx]; exact this
                obtain ⟨q, hq2, hqe⟩ := lm_q hge0
                subst hqe
                have hq31 : (nI q).toInt = (q : Int) := nI_toInt hq2
                have hq26 : q < 26 := by rw [hq31] at hlt9; omega
                rw [hq31] at hlt9
                clear hmx
                refine lv_lconst (v := lN 0) hx hb dX5_limb_119 rfl ?_
                refine lv_lstore (lv' := [(6, .long (lN 0)), (5, .int (nI ((q_bl pv.natAbs + 31) / 32))), (4, .int (nI r)), (0, .ref (mo 0)), (1, .int (nI kn)), (2, .int (nI tn)), (3, .int (nI q))]) hx hb dX5_limb_120 hl (by decide) rfl (fun ls hl => ?_)
                refine lv_bipush (v := nI 32 - nI 1) hx hb dX5_limb_122 (by decide) ?_
                refine lv_istore (lv' := [(8, .int (nI 32 - nI 1)), (6, .long (lN 0)), (5, .int (nI ((q_bl pv.natAbs + 31) / 32))), (4, .int (nI r)), (0, .ref (mo 0)), (1, .int (nI kn)), (2, .int (nI tn)), (3, .int (nI q))]) hx hb dX5_limb_124 hl (by decide) rfl (fun ls hl => ?_)
                have hvc := hv
                obtain ⟨F9, G9, S9, R9_, hm, hrg⟩ := hvc
                obtain ⟨hF9, hV9, -⟩ := hrg r hr60
                rw [f_r] at hV9
                suffices hloop : ∀ (k : Nat) (ls : Array Slot) (H : Heap) (locs : List Loc), k ≤ 32 → lv_has ls 10 [(8, .int (nI k - nI 1)), (6, .long (lN (pv.natAbs / 2 ^ (32 * q + k) % 2 ^ (32 - k)))), (4, .int (nI r)), (3, .int (nI q)), (0, .ref (mo 0))] → bd_W K E z (bd_A K sz) s.heap H locs → W p l e (headSpec wsX5_limb ({ frames := 8, cells := 0, slots := 0, locals := 280 })).room s m [.ref (mo 0), .int (nI kn), .int (nI tn), .int (nI q)].toArray below meth c H locs 0 0 (MQ below (va_Ql (fun r u => r = (dk_limb (nI kn) (nI tn) (nI q) mu ra).2 ∧ ∃ rg : Nat → Int, md_v K u.1 mo (dk_limb (nI kn) (nI tn) (nI q) mu ra).1 P rg ∧ md_iv P rg mu ra) (bd_B K) (bd_A K sz)) [.ref (mo 0), .int (nI kn), .int (nI tn), .int (nI q)].toArray s 0 0 (bd_A K sz)) (F0 m 126 ls []) from hloop 32 ls _ _ (by omega) (by rw [Nat.sub_self, Nat.pow_zero, Nat.mod_one]; exact lv_sub hl [0, 1, 3, 7, 4] rfl) hw
                clear hw hl
                intro k
                induction k using Nat.strongRecOn with
                | ind k ih =>
                  intro ls H locs hk32 hl hw
                  rcases k with _ | j
                  · skip
                    refine lv_iload hx hb dX5_limb_126 (lv_at hl 0 rfl) ?_
                    refine lv_if_lt (tgt := 189) hx hb dX5_limb_128 (by decide) (fun hc128 => ?_) (fun hc128 => ?_)
                    · refine lv_lload hx hb dX5_limb_189 (lv_at hl 1 rfl) ?_
                      have hd : dk_limb (nI kn) (nI tn) (nI q) mu ra = (nI 0, (lN (pv.natAbs / 2 ^ (32 * q + 0) % 2 ^ (32 - 0)))) := by rw [hlim]; exact lm_end hl1 hq31 hlt9
                      exact bd_lret C hr hlk hw dX5_limb_191 (by rw [hd]; exact ⟨rfl, _, hv, md_ivm hiv hof⟩)
                    · exact absurd (by decide) hc128
                  · rw [nI_p1] at hl
                    have hvb : pv.natAbs / 2 ^ (32 * q + (j + 1)) % 2 ^ (32 - (j + 1)) < 2 ^ 32 := Nat.lt_of_lt_of_le (Nat.mod_lt _ (Nat.pow_pos (by decide))) (Nat.pow_le_pow_right (by decide) (by omega))
                    refine lv_iload hx hb dX5_limb_126 (lv_at hl 0 rfl) ?_
                    refine bd_zlt (h1 := (by omega)) (tgt := 189) hx hb dX5_limb_128 (by decide) ?_
                    refine lv_bipush (v := nI 32) hx hb dX5_limb_131 (by decide) ?_
                    refine lv_iload_n hx hb dX5_limb_133 rfl (lv_at hl 3 rfl) ?_
                    refine bd_imul (v := (nI (32 * q))) hx hb dX5_limb_134 (nI_mul _ _) ?_
                    refine lv_iload hx hb dX5_limb_135 (lv_at hl 0 rfl) ?_
                    refine bd_iadd (v := (nI (32 * q + j))) hx hb dX5_limb_137 (nI_add _ _) ?_
                    refine lv_istore (lv' := [(9, .int (nI (32 * q + j))), (8, .int (nI j)), (6, .long (lN (pv.natAbs / 2 ^ (32 * q + (j + 1)) % 2 ^ (32 - (j + 1))))), (4, .int (nI r)), (3, .int (nI q)), (0, .ref (mo 0))]) hx hb dX5_limb_138 hl (by decide) rfl (fun ls hl => ?_)
                    refine lv_ldc2 (v := lN 2) hx hb hown (hts _ lk152) dX5_limb_140 ?_
                    refine lv_lload hx hb dX5_limb_143 (lv_at hl 2 rfl) ?_
                    refine bd_lmul (v := (lN (2 * (pv.natAbs / 2 ^ (32 * q + (j + 1)) % 2 ^ (32 - (j + 1)))))) hx hb dX5_limb_145 (lN_mul _ _) ?_
                    refine lv_iload hx hb dX5_limb_146 (lv_at hl 0 rfl) ?_
                    refine lv_bipush (v := nI 24) hx hb dX5_limb_148 (by decide) ?_
                    refine bd_idiv (v := (nI ((32 * q + j) / 24))) hx hb dX5_limb_150 (by decide) (pk_div (by omega) (by decide) (by decide)) ?_
                    refine lv_bipush (v := nI 34) hx hb dX5_limb_151 (by decide) ?_
                    refine bd_ige (h1 := by omega) (h2 := by omega) (tgt := 178) hx hb dX5_limb_153 (by decide) (fun hc153 => ?_) (fun hc153 => ?_)
                    · have hbt : pv.natAbs / 2 ^ (32 * q + j) % 2 = 0 := lm_hi hpf (by omega)
                      refine lv_iconst (v := nI 0) hx hb dX5_limb_178 (by decide) ?_
                      refine bd_i2l (v := lN (pv.natAbs / 2 ^ (32 * q + j) % 2)) hx hb dX5_limb_179 (by rw [nI_l (by omega), hbt]) ?_
                      refine bd_ladd (v := (lN (2 * (pv.natAbs / 2 ^ (32 * q + (j + 1)) % 2 ^ (32 - (j + 1))) + pv.natAbs / 2 ^ (32 * q + j) % 2))) hx hb dX5_limb_180 (lN_add _ _) ?_
                      refine lv_lstore (lv' := [(6, .long (lN (2 * (pv.natAbs / 2 ^ (32 * q + (j + 1)) % 2 ^ (32 - (j + 1))) + pv.natAbs / 2 ^ (32 * q + j) % 2))), (9, .int (nI (32 * q + j))), (8, .int (nI j)), (4, .int (nI r)), (3, .int (nI q)), (0, .ref (mo 0))]) hx hb dX5_limb_181 hl (by decide) rfl (fun ls hl => ?_)
                      refine lv_iinc (v := (nI j - nI 1)) (lv' := [(8, .int (nI j - nI 1)), (6, .long (lN (2 * (pv.natAbs / 2 ^ (32 * q + (j + 1)) % 2 ^ (32 - (j + 1))) + pv.natAbs / 2 ^ (32 * q + j) % 2))), (9, .int (nI (32 * q + j))), (4, .int (nI r)), (3, .int (nI q)), (0, .ref (mo 0))]) hx hb dX5_limb_183 hl (k := 2) rfl (bd_dec _) (by decide) rfl (fun ls hl => ?_)
                      refine lv_goto (tgt := 126) hx hb dX5_limb_186 (by decide) ?_
                      exact ih j (by omega) ls H locs (by omega) (by rw [lm_st (A := pv.natAbs) (q := q) (show j < 32 by omega)]; exact lv_sub hl [0, 1, 3, 4, 5] rfl) hw
                    · have hbt := dv_bit (f := F9 r) (j := 32 * q + j) hF9 (by omega)
                      rw [hV9] at hbt
                      refine lv_aload_n hx hb dX5_limb_156 rfl (lv_at hl 5 rfl) ?_
                      refine lv_iload hx hb dX5_limb_157 (lv_at hl 3 rfl) ?_
                      refine lv_iload hx hb dX5_limb_159 (lv_at hl 0 rfl) ?_
                      refine lv_bipush (v := nI 24) hx hb dX5_limb_161 (by decide) ?_
                      refine bd_idiv (v := (nI ((32 * q + j) / 24))) hx hb dX5_limb_163 (by decide) (pk_div (by omega) (by decide) (by decide)) ?_
                      refine bd_cip (As := [.int (nI r), .int (nI ((32 * q + j) / 24))]) (rest := [.long (lN (2 * (pv.natAbs / 2 ^ (32 * q + (j + 1)) % 2 ^ (32 - (j + 1)))))]) C (m5_at _ _ _ _ _ hm r ((32 * q + j) / 24) (by omega) (by omega)) (cwV 2 hts gX5_limb_X5_at rfl rfl rfl (by decide +kernel) ⟨Nat.le_of_ble_eq_true rfl, Nat.le_of_ble_eq_true rfl⟩) hsz hw (md_recv C hw hm) dX5_limb_164 rfl hl.1 rfl (Nat.le_of_ble_eq_true rfl) ⟨Nat.le_refl _, Nat.le_refl _⟩ (fun H locs hw => ?_)
                      refine lv_iload hx hb dX5_limb_167 (lv_at hl 0 rfl) ?_
                      refine lv_bipush (v := nI 24) hx hb dX5_limb_169 (by decide) ?_
                      refine bd_irem (v := (nI ((32 * q + j) % 24))) hx hb dX5_limb_171 (by decide) (pk_rem (by omega) (by decide) (by decide)) ?_
                      refine bd_ishr (v := (nI (F9 r ((32 * q + j) / 24) / 2 ^ ((32 * q + j) % 24)))) hx hb dX5_limb_172 (i_shn (Nat.lt_of_lt_of_le (hF9 _ (by omega)) (by decide)) (by omega)) ?_
                      refine lv_iconst (v := nI 1) hx hb dX5_limb_173 (by decide) ?_
                      refine bd_iand (v := (nI (F9 r ((32 * q + j) / 24) / 2 ^ ((32 * q + j) % 24) % 2))) hx hb dX5_limb_174 (i_b1 (Nat.lt_of_le_of_lt (Nat.div_le_self _ _) (Nat.lt_of_lt_of_le (hF9 _ (by omega)) (by decide)))) ?_
                      refine lv_goto (tgt := 179) hx hb dX5_limb_175 (by decide) ?_
                      refine bd_i2l (v := lN (pv.natAbs / 2 ^ (32 * q + j) % 2)) hx hb dX5_limb_179 (by rw [nI_l (by omega), hbt]) ?_
                      refine bd_ladd (v := (lN (2 * (pv.natAbs / 2 ^ (32 * q + (j + 1)) % 2 ^ (32 - (j + 1))) + pv.natAbs / 2 ^ (32 * q + j) % 2))) hx hb dX5_limb_180 (lN_add _ _) ?_
                      refine lv_lstore (lv' := [(6, .long (lN (2 * (pv.natAbs / 2 ^ (32 * q + (j + 1)) % 2 ^ (32 - (j + 1))) + pv.natAbs / 2 ^ (32 * q + j) % 2))), (9, .int (nI (32 * q + j))), (8, .int (nI j)), (4, .int (nI r)), (3, .int (nI q)), (0, .ref (mo 0))]) hx hb dX5_limb_181 hl (by decide) rfl (fun ls hl => ?_)
                      refine lv_iinc (v := (nI j - nI 1)) (lv' := [(8, .int (nI j - nI 1)), (6, .long (lN (2 * (pv.natAbs / 2 ^ (32 * q + (j + 1)) % 2 ^ (32 - (j + 1))) + pv.natAbs / 2 ^ (32 * q + j) % 2))), (9, .int (nI (32 * q + j))), (4, .int (nI r)), (3, .int (nI q)), (0, .ref (mo 0))]) hx hb dX5_limb_183 hl (k := 2) rfl (bd_dec _) (by decide) rfl (fun ls hl => ?_)
                      refine lv_goto (tgt := 126) hx hb dX5_limb_186 (by decide) ?_
                      exact ih j (by omega) ls H locs (by omega) (by rw [lm_st (A := pv.natAbs) (q := q) (show j < 32 by omega)]; exact lv_sub hl [0, 1, 3, 4, 5] rfl) hw
              · have hth : lb.toInt < 0 ∨ ((max 1 ((q_bl pv.natAbs + 31) / 32) : Nat) : Int) ≤ lb.toInt := Or.inr (by have := mt Int32.lt_iff_toInt_lt.mpr hc109; rw [nI_toInt (by omega)] at this; rw [hmx]; omega)
                refine lv_aload_n hx hb dX5_limb_112 rfl (lv_at hl 2 rfl) ?_
                refine lv_iconst (v := nI 1) hx hb dX5_limb_113 (by decide) ?_
                refine mv_pt C i5 hw hv dX5_limb_114 lk48 (fun E H locs hv hw => ?_)
                refine lv_lconst (v := lN 0) hx hb dX5_limb_117 rfl ?_
                have hd : dk_limb (nI kn) (nI tn) lb mu ra = (nI 1, (lN 0)) := by rw [hlim]; unfold dk_limv; rw [if_neg hl1, if_pos hth]; rfl
                exact bd_lret C hr hlk hw dX5_limb_118 (by rw [hd]; exact ⟨rfl, _, hv, md_ivm hiv hof⟩)
            · have hmx : max 1 ((q_bl pv.natAbs + 31) / 32) = 1 := by rw [hc100]; rfl
              refine lv_iconst (v := nI 1) hx hb dX5_limb_103 (by decide) ?_
              refine lv_goto (tgt := 109) hx hb dX5_limb_104 (by decide) ?_
              refine lv_icmp_lt (tgt := 119) hx hb dX5_limb_109 (by decide) (fun hc109 => ?_) (fun hc109 => ?_)
              · have hlt9 : lb.toInt < ((max 1 ((q_bl pv.natAbs + 31) / 32) : Nat) : Int) := by have := Int32.lt_iff_toInt_lt.mp hc109; rw [nI_toInt (by omega)] at this; rw [hmx]; exact this
                obtain ⟨q, hq2, hqe⟩ := lm_q hge0
                subst hqe
                have hq31 : (nI q).toInt = (q : Int) := nI_toInt hq2
                have hq26 : q < 26 := by rw [hq31] at hlt9; omega
                rw [hq31] at hlt9
                clear hmx
                refine lv_lconst (v := lN 0) hx hb dX5_limb_119 rfl ?_
                refine lv_lstore (lv' := [(6, .long (lN 0)), (5, .int (nI ((q_bl pv.natAbs + 31) / 32))), (4, .int (nI r)), (0, .ref (mo 0)), (1, .int (nI kn)), (2, .int (nI tn)), (3, .int (nI q))]) hx hb dX5_limb_120 hl (by decide) rfl (fun ls hl => ?_)
                refine lv_bipush (v := nI 32 - nI 1) hx hb dX5_limb_122 (by decide) ?_
                refine lv_istore (lv' := [(8, .int (nI 32 - nI 1)), (6, .long (lN 0)), (5, .int (nI ((q_bl pv.natAbs + 31) / 32))), (4, .int (nI r)), (0, .ref (mo 0)), (1, .int (nI kn)), (2, .int (nI tn)), (3, .int (nI q))]) hx hb dX5_limb_124 hl (by decide) rfl (fun ls hl => ?_)
                have hvc := hv
                obtain ⟨F9, G9, S9, R9_, hm, hrg⟩ := hvc
                obtain ⟨hF9, hV9, -⟩ := hrg r hr60
                rw [f_r] at hV9
                suffices hloop : ∀ (k : Nat) (ls : Array Slot) (H : Heap) (locs : List Loc), k ≤ 32 → lv_has ls 10 [(8, .int (nI k - nI 1)), (6, .long (lN (pv.natAbs / 2 ^ (32 * q + k) % 2 ^ (32 - k)))), (4, .int (nI r)), (3, .int (nI q)), (0, .ref (mo 0))] → bd_W K E z (bd_A K sz) s.heap H locs → W p l e (headSpec wsX5_limb ({ frames := 8, cells := 0, slots := 0, locals := 280 })).room s m [.ref (mo 0), .int (nI kn), .int (nI tn), .int (nI q)].toArray below meth c H locs 0 0 (MQ below (va_Ql (fun r u => r = (dk_limb (nI kn) (nI tn) (nI q) mu ra).2 ∧ ∃ rg : Nat → Int, md_v K u.1 mo (dk_limb (nI kn) (nI tn) (nI q) mu ra).1 P rg ∧ md_iv P rg mu ra) (bd_B K) (bd_A K sz)) [.ref (mo 0), .int (nI kn), .int (nI tn), .int (nI q)].toArray s 0 0 (bd_A K sz)) (F0 m 126 ls []) from hloop 32 ls _ _ (by omega) (by rw [Nat.sub_self, Nat.pow_zero, Nat.mod_one]; exact lv_sub hl [0, 1, 3, 7, 4] rfl) hw
                clear hw hl
                intro k
                induction k using Nat.strongRecOn with
                | ind k ih =>
                  intro ls H locs hk32 hl hw
                  rcases k with _ | j
                  · skip
                    refine lv_iload hx hb dX5_limb_126 (lv_at hl 0 rfl) ?_
                    refine lv_if_lt (tgt := 189) hx hb dX5_limb_128 (by decide) (fun hc128 => ?_) (fun hc128 => ?_)
                    · refine lv_lload hx hb dX5_limb_189 (lv_at hl 1 rfl) ?_
                      have hd : dk_limb (nI kn) (nI tn) (nI q) mu ra = (nI 0, (lN (pv.natAbs / 2 ^ (32 * q + 0) % 2 ^ (32 - 0)))) := by rw [hlim]; exact lm_end hl1 hq31 hlt9
                      exact bd_lret C hr hlk hw dX5_limb_191 (by rw [hd]; exact ⟨rfl, _, hv, md_ivm hiv hof⟩)
                    · exact absurd (by decide) hc128
                  · rw [nI_p1] at hl
                    have hvb : pv.natAbs / 2 ^ (32 * q + (j + 1)) % 2 ^ (32 - (j + 1)) < 2 ^ 32 := Nat.lt_of_lt_of_le (Nat.mod_lt _ (Nat.pow_pos (by decide))) (Nat.pow_le_pow_right (by decide) (by omega))
                    refine lv_iload hx hb dX5_limb_126 (lv_at hl 0 rfl) ?_
                    refine bd_zlt (h1 := (by omega)) (tgt := 189) hx hb dX5_limb_128 (by decide) ?_
                    refine lv_bipush (v := nI 32) hx hb dX5_limb_131 (by decide) ?_
                    refine lv_iload_n hx hb dX5_limb_133 rfl (lv_at hl 3 rfl) ?_
                    refine bd_imul (v := (nI (32 * q))) hx hb dX5_limb_134 (nI_mul _ _) ?_
                    refine lv_iload hx hb dX5_limb_135 (lv_at hl 0 rfl) ?_
                    refine bd_iadd (v := (nI (32 * q + j))) hx hb dX5_limb_137 (nI_add _ _) ?_
                    refine lv_istore (lv' := [(9, .int (nI (32 * q + j))), (8, .int (nI j)), (6, .long (lN (pv.natAbs / 2 ^ (32 * q + (j + 1)) % 2 ^ (32 - (j + 1))))), (4, .int (nI r)), (3, .int (nI q)), (0, .ref (mo 0))]) hx hb dX5_limb_138 hl (by decide) rfl (fun ls hl => ?_)
                    refine lv_ldc2 (v := lN 2) hx hb hown (hts _ lk152) dX5_limb_140 ?_
                    refine lv_lload hx hb dX5_limb_143 (lv_at hl 2 rfl) ?_
                    refine bd_lmul (v := (lN (2 * (pv.natAbs / 2 ^ (32 * q + (j + 1)) % 2 ^ (32 - (j + 1)))))) hx hb dX5_limb_145 (lN_mul _ _) ?_
                    refine lv_iload hx hb dX5_limb_146 (lv_at hl 0 rfl) ?_
                    refine lv_bipush (v := nI 24) hx hb dX5_limb_148 (by decide) ?_
                    refine bd_idiv (v := (nI ((32 * q + j) / 24))) hx hb dX5_limb_150 (by decide) (pk_div (by omega) (by decide) (by decide)) ?_
                    refine lv_bipush (v := nI 34) hx hb dX5_limb_151 (by decide) ?_
                    refine bd_ige (h1 := by omega) (h2 := by omega) (tgt := 178) hx hb dX5_limb_153 (by decide) (fun hc153 => ?_) (fun hc153 => ?_)
                    · have hbt : pv.natAbs / 2 ^ (32 * q + j) % 2 = 0 := lm_hi hpf (by omega)
                      refine lv_iconst (v := nI 0) hx hb dX5_limb_178 (by decide) ?_
                      refine bd_i2l (v := lN (pv.natAbs / 2 ^ (32 * q + j) % 2)) hx hb dX5_limb_179 (by rw [nI_l (by omega), hbt]) ?_
                      refine bd_ladd (v := (lN (2 * (pv.natAbs / 2 ^ (32 * q + (j + 1)) % 2 ^ (32 - (j + 1))) + pv.natAbs / 2 ^ (32 * q + j) % 2))) hx hb dX5_limb_180 (lN_add _ _) ?_
                      refine lv_lstore (lv' := [(6, .long (lN (2 * (pv.natAbs / 2 ^ (32 * q + (j + 1)) % 2 ^ (32 - (j + 1))) + pv.natAbs / 2 ^ (32 * q + j) % 2))), (9, .int (nI (32 * q + j))), (8, .int (nI j)), (4, .int (nI r)), (3, .int (nI q)), (0, .ref (mo 0))]) hx hb dX5_limb_181 hl (by decide) rfl (fun ls hl => ?_)
                      refine lv_iinc (v := (nI j - nI 1)) (lv' := [(8, .int (nI j - nI 1)), (6, .long (lN (2 * (pv.natAbs / 2 ^ (32 * q + (j + 1)) % 2 ^ (32 - (j + 1))) + pv.natAbs / 2 ^ (32 * q + j) % 2))), (9, .int (nI (32 * q + j))), (4, .int (nI r)), (3, .int (nI q)), (0, .ref (mo 0))]) hx hb dX5_limb_183 hl (k := 2) rfl (bd_dec _) (by decide) rfl (fun ls hl => ?_)
                      refine lv_goto (tgt := 126) hx hb dX5_limb_186 (by decide) ?_
                      exact ih j (by omega) ls H locs (by omega) (by rw [lm_st (A := pv.natAbs) (q := q) (show j < 32 by omega)]; exact lv_sub hl [0, 1, 3, 4, 5] rfl) hw
                    · have hbt := dv_bit (f := F9 r) (j := 32 * q + j) hF9 (by omega)
                      rw [hV9] at hbt
                      refine lv_aload_n hx hb dX5_limb_156 rfl (lv_at hl 5 rfl) ?_
                      refine lv_iload hx hb dX5_limb_157 (lv_at hl 3 rfl) ?_
                      refine lv_iload hx hb dX5_limb_159 (lv_at hl 0 rfl) ?_
                      refine lv_bipush (v := nI 24) hx hb dX5_limb_161 (by decide) ?_
                      refine bd_idiv (v := (nI ((32 * q + j) / 24))) hx hb dX5_limb_163 (by decide) (pk_div (by omega) (by decide) (by decide)) ?_
                      refine bd_cip (As := [.int (nI r), .int (nI ((32 * q + j) / 24))]) (rest := [.long (lN (2 * (pv.natAbs / 2 ^ (32 * q + (j + 1)) % 2 ^ (32 - (j + 1)))))]) C (m5_at _ _ _ _ _ hm r ((32 * q + j) / 24) (by omega) (by omega)) (cwV 2 hts gX5_limb_X5_at rfl rfl rfl (by decide +kernel) ⟨Nat.le_of_ble_eq_true rfl, Nat.le_of_ble_eq_true rfl⟩) hsz hw (md_recv C hw hm) dX5_limb_164 rfl hl.1 rfl (Nat.le_of_ble_eq_true rfl) ⟨Nat.le_refl _, Nat.le_refl _⟩ (fun H locs hw => ?_)
                      refine lv_iload hx hb dX5_limb_167 (lv_at hl 0 rfl) ?_
                      refine lv_bipush (v := nI 24) hx hb dX5_limb_169 (by decide) ?_
                      refine bd_irem (v := (nI ((32 * q + j) % 24))) hx hb dX5_limb_171 (by decide) (pk_rem (by omega) (by decide) (by decide)) ?_
                      refine bd_ishr (v := (nI (F9 r ((32 * q + j) / 24) / 2 ^ ((32 * q + j) % 24)))) hx hb dX5_limb_172 (i_shn (Nat.lt_of_lt_of_le (hF9 _ (by omega)) (by decide)) (by omega)) ?_
                      refine lv_iconst (v := nI 1) hx hb dX5_limb_173 (by decide) ?_
                      refine bd_iand (v := (nI (F9 r ((32 * q + j) / 24) / 2 ^ ((32 * q + j) % 24) % 2))) hx hb dX5_limb_174 (i_b1 (Nat.lt_of_le_of_lt (Nat.div_le_self _ _) (Nat.lt_of_lt_of_le (hF9 _ (by omega)) (by decide)))) ?_
                      refine lv_goto (tgt := 179) hx hb dX5_limb_175 (by decide) ?_
                      refine bd_i2l (v := lN (pv.natAbs / 2 ^ (32 * q + j) % 2)) hx hb dX5_limb_179 (by rw [nI_l (by omega), hbt]) ?_
                      refine bd_ladd (v := (lN (2 * (pv.natAbs / 2 ^ (32 * q + (j + 1)) % 2 ^ (32 - (j + 1))) + pv.natAbs / 2 ^ (32 * q + j) % 2))) hx hb dX5_limb_180 (lN_add _ _) ?_
                      refine lv_lstore (lv' := [(6, .long (lN (2 * (pv.natAbs / 2 ^ (32 * q + (j + 1)) % 2 ^ (32 - (j + 1))) + pv.natAbs / 2 ^ (32 * q + j) % 2))), (9, .int (nI (32 * q + j))), (8, .int (nI j)), (4, .int (nI r)), (3, .int (nI q)), (0, .ref (mo 0))]) hx hb dX5_limb_181 hl (by decide) rfl (fun ls hl => ?_)
                      refine lv_iinc (v := (nI j - nI 1)) (lv' := [(8, .int (nI j - nI 1)), (6, .long (lN (2 * (pv.natAbs / 2 ^ (32 * q + (j + 1)) % 2 ^ (32 - (j + 1))) + pv.natAbs / 2 ^ (32 * q + j) % 2))), (9, .int (nI (32 * q + j))), (4, .int (nI r)), (3, .int (nI q)), (0, .ref (mo 0))]) hx hb dX5_limb_183 hl (k := 2) rfl (bd_dec _) (by decide) rfl (fun ls hl => ?_)
                      refine lv_goto (tgt := 126) hx hb dX5_limb_186 (by decide) ?_
                      exact ih j (by omega) ls H locs (by omega) (by rw [lm_st (A := pv.natAbs) (q := q) (show j < 32 by omega)]; exact lv_sub hl [0, 1, 3, 4, 5] rfl) hw
              · have hth : lb.toInt < 0 ∨ ((max 1 ((q_bl pv.natAbs + 31) / 32) : Nat) : Int) ≤ lb.toInt := Or.inr (by have := mt Int32.lt_iff_toInt_lt.mpr hc109; rw [nI_toInt (by omega)] at this; rw [hmx]; omega)
                refine lv_aload_n hx hb dX5_limb_112 rfl (lv_at hl 2 rfl) ?_
                refine lv_iconst (v := nI 1) hx hb dX5_limb_113 (by decide) ?_
                refine mv_pt C i5 hw hv dX5_limb_114 lk48 (fun E H locs hv hw => ?_)
                refine lv_lconst (v := lN 0) hx hb dX5_limb_117 rfl ?_
                have hd : dk_limb (nI kn) (nI tn) lb mu ra = (nI 1, (lN 0)) := by rw [hlim]; unfold dk_limv; rw [if_neg hl1, if_pos hth]; rfl
                exact bd_lret C hr hlk hw dX5_limb_118 (by rw [hd]; exact ⟨rfl, _, hv, md_ivm hiv hof⟩)
        · have hl1 : lb = -1 := hc66
          refine lv_aload_n hx hb dX5_limb_69 rfl (lv_at hl 1 rfl) ?_
          refine mv_g C i5 hw hv 4 (by decide) (v := .ref (mo 2)) rfl dX5_limb_70 lk13 ?_
          refine lv_iload hx hb dX5_limb_73 (lv_at hl 0 rfl) ?_
          refine mv_ld2 C hw hv (r := r) dX5_limb_75 (by omega) ?_
          rw [f_r]
          refine bd_i2l (v := (q_sg pv).toInt64) hx hb dX5_limb_76 (rfl) ?_
          have hd : dk_limb (nI kn) (nI tn) lb mu ra = (nI 0, (q_sg pv).toInt64) := by rw [hlim, hl1]; rfl
          exact bd_lret C hr hlk hw dX5_limb_77 (by rw [hd]; exact ⟨rfl, _, hv, md_ivm hiv hof⟩)
      · have hno : ¬ part.toInt ≤ 3 := fun q => hc18 (Int32.le_iff_toInt_le.mpr q)
        refine lv_ldc2 (v := -2) hx hb hown (hts _ lk154) dX5_limb_21 ?_
        have hd : dk_limb (nI kn) part lb mu ra = (nI 0, (-2)) := if_neg (fun q => hno q.2.2)
        exact bd_lret C hr hlk hw dX5_limb_24 (by rw [hd]; exact ⟨rfl, _, hv, md_ivm hiv hof⟩)
