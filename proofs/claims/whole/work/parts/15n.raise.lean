/-! Whole: raisedLimb, raise (laid by wip/gen/m_whole12.py) -/
/-- Whole.at at any place -/
theorem c3_atI (l : Launch) (K : Cxt) (E : Nat → va_E) (z0 : Nat → Wh) (sz h : Nat) (k : Int) (hh : h ∈ bd_N K) {n : Nat} {g : Int32} {f : Nat → Nat} (hz : z0 h = (n, g, f)) (h24 : n ≤ 24) (hk : -1000 ≤ k ∧ k < 1000) : Met l yX3_at wsX3_at ({ frames := 0, cells := 0, slots := 0, locals := 0 }) (va_Pc [.ref h, .int (Int32.ofInt k)] (bd_P K E z0 sz)) (va_Ql (fun r u => r = lN (q_at n f k) ∧ u = (E, z0)) (bd_B K) (bd_A K sz)) 0 0 (bd_A K sz) := by
  rcases Int.lt_or_le k 0 with q | q
  · have h1 := c3_atneg l K E z0 sz h (Int32.ofInt k) hh hz (bd_ofI_neg hk.1 q)
    rw [q_at_neg q]
    exact h1
  · obtain ⟨j, rfl⟩ := Int.eq_ofNat_of_zero_le q
    rw [bd_ofI]
    exact c3_at l K E z0 sz h j hh hz h24 (by omega)
set_option maxHeartbeats 4000000 in
set_option maxRecDepth 100000 in
/-- Whole.raisedLimb(k, sh) -/
theorem c3_raisedLimb (l : Launch) (K : Cxt) (E : Nat → va_E) (z0 : Nat → Wh) (sz h : Nat) (k : Int) (sh : Nat) (hh : h ∈ bd_N K) {n : Nat} {g : Int32} {f : Nat → Nat} (hz : z0 h = (n, g, f)) (h24 : n ≤ 24) (hf : q_r f) (hk : -900 ≤ k ∧ k < 900) (hsh : sh < 32) : Met l yX3_raisedLimb wsX3_raisedLimb ({ frames := 1, cells := 0, slots := 0, locals := 30 }) (va_Pc [.ref h, .int (Int32.ofInt k), .int (nI sh)] (bd_P K E z0 sz)) (va_Ql (fun r u => r = lN (q_rs n f sh k) ∧ u = (E, z0)) (bd_B K) (bd_A K sz)) 0 0 (bd_A K sz) := by
  refine bd_ofW (cc := cX3_raisedLimb) (maxL := 3) (ret := (some .long)) (by decide) rfl (Nat.le_of_ble_eq_true rfl) ?_
  intro p e s m below meth c ls C hr hlk hsz hw hl
  have hx := C.1
  have hb := C.2.1
  have hown := C.2.2.2.1
  have hts := C.2.2.2.2.1
  have lk30 : Cond.constantLong RX3 30 (4294967295) ∈ wsX3_raisedLimb := by decide +kernel
  have ho : ∀ b, b ≠ h → z0 b = z0 b := fun _ _ => rfl
  have hl : lv_has ls 3 [(0, .ref h), (1, .int (Int32.ofInt k)), (2, .int (nI sh))] := hl
  have ha0 := q_at_lt hf h24 k
  have ha1 := q_at_lt hf h24 (k - 1)
  have hlo := q_lo32 (s := sh) (by omega) ha1
  have hpw : 2 ^ sh ≤ 2 ^ 31 := Nat.pow_le_pow_right (by decide) (by omega)
  have hmu : (q_at n f k) * 2 ^ sh ≤ 4294967295 * 2 ^ 31 := Nat.mul_le_mul (by omega) hpw
  have hu : (q_at n f k) * 2 ^ sh + (q_at n f (k - 1)) / 2 ^ (32 - sh) < 2 ^ 64 := by omega
  refine lv_aload_n hx hb dX3_raisedLimb_0 rfl (lv_at hl 0 rfl) ?_
  refine lv_iload_n hx hb dX3_raisedLimb_1 rfl (lv_at hl 1 rfl) ?_
  refine bd_clp (As := [.int (Int32.ofInt k)]) (rest := []) C (c3_atI _ _ _ _ _ _ k hh hz h24 (by omega)) (cwV 1 hts gX3_raisedLimb_X3_at rfl rfl rfl (by decide +kernel) ⟨Nat.le_of_ble_eq_true rfl, Nat.le_of_ble_eq_true rfl⟩) hsz hw (bd_recv C hw hh) dX3_raisedLimb_2 rfl hl.1 rfl (Nat.le_of_ble_eq_true rfl) ⟨Nat.le_refl _, Nat.le_refl _⟩ (fun H locs hw => ?_)
  refine lv_iload_n hx hb dX3_raisedLimb_5 rfl (lv_at hl 2 rfl) ?_
  refine bd_lshl (v := (lN ((q_at n f k) * 2 ^ sh))) hx hb dX3_raisedLimb_6 (wb_shl _ (by omega)) ?_
  refine lv_aload_n hx hb dX3_raisedLimb_7 rfl (lv_at hl 0 rfl) ?_
  refine lv_iload_n hx hb dX3_raisedLimb_8 rfl (lv_at hl 1 rfl) ?_
  refine lv_iconst (v := nI 1) hx hb dX3_raisedLimb_9 (by decide) ?_
  refine bd_isub (v := (Int32.ofInt (k - 1))) hx hb dX3_raisedLimb_10 (bd_ofI_sub k 1) ?_
  refine bd_clp (As := [.int (Int32.ofInt (k - 1))]) (rest := [.long (lN ((q_at n f k) * 2 ^ sh))]) C (c3_atI _ _ _ _ _ _ (k - 1) hh hz h24 (by omega)) (cwV 1 hts gX3_raisedLimb_X3_at rfl rfl rfl (by decide +kernel) ⟨Nat.le_of_ble_eq_true rfl, Nat.le_of_ble_eq_true rfl⟩) hsz hw (bd_recv C hw hh) dX3_raisedLimb_11 rfl hl.1 rfl (Nat.le_of_ble_eq_true rfl) ⟨Nat.le_refl _, Nat.le_refl _⟩ (fun H locs hw => ?_)
  refine lv_bipush (v := nI 32) hx hb dX3_raisedLimb_14 (by decide) ?_
  refine lv_iload_n hx hb dX3_raisedLimb_16 rfl (lv_at hl 2 rfl) ?_
  refine bd_isub (v := (nI (32 - sh))) hx hb dX3_raisedLimb_17 (pk_sub (by omega)) ?_
  refine bd_lushr (v := (lN ((q_at n f (k - 1)) / 2 ^ (32 - sh)))) hx hb dX3_raisedLimb_18 (wb_shr (by omega) (by omega)) ?_
  refine bd_lor (v := (lN ((q_at n f k) * 2 ^ sh + (q_at n f (k - 1)) / 2 ^ (32 - sh)))) hx hb dX3_raisedLimb_19 (g_or (k := sh) rfl hlo hu) ?_
  refine lv_ldc2 (v := lN 4294967295) hx hb hown (hts _ lk30) dX3_raisedLimb_20 ?_
  refine bd_land (v := (lN (q_rs n f sh k))) hx hb dX3_raisedLimb_23 (bd_m32 hu) ?_
  exact bd_lret C hr hlk hw dX3_raisedLimb_24 (⟨rfl, rfl⟩)
set_option maxHeartbeats 4000000 in
set_option maxRecDepth 100000 in
/-- Whole.raise(t) -/
theorem c3_raise (l : Launch) (K : Cxt) (E : Nat → va_E) (z0 : Nat → Wh) (sz h : Nat) (t : Nat) (hh : h ∈ bd_N K) {n : Nat} {g : Int32} {f : Nat → Nat} (hz : z0 h = (n, g, f)) {v : Int} (hv : bd_n (n, g, f) v) (ht : t < 768) (hm : n = 0 ∨ n + t / 32 + 1 ≤ 24) : Met l yX3_raise wsX3_raise ({ frames := 2, cells := 0, slots := 0, locals := 60 }) (va_Pc [.ref h, .int (nI t)] (bd_P K E z0 sz)) (va_Qv (fun u => u.1 = E ∧ bd_n (u.2 h) (v * ((2 ^ t : Nat) : Int)) ∧ ∀ b, b ≠ h → u.2 b = z0 b) (bd_B K) (bd_A K sz)) 0 0 (bd_A K sz) := by
  refine bd_ofW (cc := cX3_raise) (maxL := 6) (ret := none) (by decide) rfl (Nat.le_of_ble_eq_true rfl) ?_
  intro p e s m below meth c ls C hr hlk hsz hw hl
  have hx := C.1
  have hb := C.2.1
  have hown := C.2.2.2.1
  have hts := C.2.2.2.2.1
  have i3 : ∀ w ∈ wsX30, w ∈ wsX3_raise := by decide +kernel
  have lk17 : Cond.fieldLink RX3 17 "BallDesk$Whole" "size" "I" ∈ wsX3_raise := by decide +kernel
  have lk9 : Cond.fieldLink RX3 9 "BallDesk$Whole" "row" "[J" ∈ wsX3_raise := by decide +kernel
  have ho : ∀ b, b ≠ h → z0 b = z0 b := fun _ _ => rfl
  have hl : lv_has ls 6 [(0, .ref h), (1, .int (nI t))] := hl
  have okm := bd_ok_m hv.1
  have hvv := bd_n_v hv
  obtain ⟨h24, hf, htp⟩ := bd_ok_sz hv.1
  refine lv_iload_n hx hb dX3_raise_0 rfl (lv_at hl 1 rfl) ?_
  refine lv_bipush (v := nI 32) hx hb dX3_raise_1 (by decide) ?_
  refine bd_idiv (v := (nI (t / 32))) hx hb dX3_raise_3 (by decide +kernel) (pk_div (by omega) (by decide) (by decide)) ?_
  refine lv_istore_n (lv' := [(2, .int (nI (t / 32))), (0, .ref h), (1, .int (nI t))]) hx hb dX3_raise_4 rfl hl (by decide) rfl (fun ls hl => ?_)
  refine lv_iload_n hx hb dX3_raise_5 rfl (lv_at hl 2 rfl) ?_
  refine lv_bipush (v := nI 32) hx hb dX3_raise_6 (by decide) ?_
  refine bd_irem (v := (nI (t % 32))) hx hb dX3_raise_8 (by decide +kernel) (pk_rem (by omega) (by decide) (by decide)) ?_
  refine lv_istore_n (lv' := [(3, .int (nI (t % 32))), (2, .int (nI (t / 32))), (0, .ref h), (1, .int (nI t))]) hx hb dX3_raise_9 rfl hl (by decide) rfl (fun ls hl => ?_)
  refine lv_aload_n hx hb dX3_raise_10 rfl (lv_at hl 2 rfl) ?_
  refine bd_gsz C i3 hw hh hz dX3_raise_11 lk17 ?_
  refine lv_iload_n hx hb dX3_raise_14 rfl (lv_at hl 1 rfl) ?_
  refine bd_iadd (v := (nI (n + (t / 32)))) hx hb dX3_raise_15 (nI_add _ _) ?_
  refine lv_iconst (v := nI 1) hx hb dX3_raise_16 (by decide) ?_
  refine bd_iadd (v := (nI ((n + (t / 32)) + 1))) hx hb dX3_raise_17 (nI_add _ _) ?_
  refine lv_istore (lv' := [(4, .int (nI ((n + (t / 32)) + 1))), (3, .int (nI (t % 32))), (2, .int (nI (t / 32))), (0, .ref h), (1, .int (nI t))]) hx hb dX3_raise_18 hl (by decide) rfl (fun ls hl => ?_)
  refine lv_aload_n hx hb dX3_raise_20 rfl (lv_at hl 3 rfl) ?_
  refine bd_gsz C i3 hw hh hz dX3_raise_21 lk17 ?_
  refine bd_zeq (h1 := (by omega)) (tgt := 38) hx hb dX3_raise_24 (by decide) (fun hc24 => ?_) (fun hc24 => ?_)
  · have hsame : v * ((2 ^ t : Nat) : Int) = v := by
      have h1 : q_s f n = 0 := by rw [hc24]; rfl
      rw [← hvv, h1]
      simp
    exact bd_vret C hr hlk hw dX3_raise_38 ⟨rfl, by rw [show (E, z0).2 h = _ from hz, hsame]; exact hv, ho⟩
  · refine lv_iload_n hx hb dX3_raise_27 rfl (lv_at hl 4 rfl) ?_
    refine bd_zle (h1 := (by omega)) (tgt := 38) hx hb dX3_raise_28 (by decide) (fun hc28 => ?_) (fun hc28 => ?_)
    · have hsame : v * ((2 ^ t : Nat) : Int) = v := by
        rw [hc28]
        show v * ((1 : Nat) : Int) = v
        omega
      exact bd_vret C hr hlk hw dX3_raise_38 ⟨rfl, by rw [show (E, z0).2 h = _ from hz, hsame]; exact hv, ho⟩
    · refine lv_iload hx hb dX3_raise_31 (lv_at hl 0 rfl) ?_
      refine lv_bipush (v := nI 24) hx hb dX3_raise_33 (by decide) ?_
      refine bd_ile (h1 := (by omega)) (h2 := (by omega)) (tgt := 39) hx hb dX3_raise_35 (by decide) (fun hc35 => ?_) (fun hc35 => ?_)
      · refine lv_iload hx hb dX3_raise_39 (lv_at hl 0 rfl) ?_
        refine lv_iconst (v := nI 1) hx hb dX3_raise_41 (by decide) ?_
        refine bd_isub (v := (nI (n + t / 32 + 1) - nI 1)) hx hb dX3_raise_42 (rfl) ?_
        refine lv_istore (lv' := [(5, .int (nI (n + t / 32 + 1) - nI 1)), (4, .int (nI ((n + (t / 32)) + 1))), (3, .int (nI (t % 32))), (2, .int (nI (t / 32))), (0, .ref h), (1, .int (nI t))]) hx hb dX3_raise_43 hl (by decide) rfl (fun ls hl => ?_)
        have hm24 : n + t / 32 + 1 ≤ 24 := by omega
        suffices hloop : ∀ (k : Nat) (z : Nat → Wh) (ls : Array Slot) (H : Heap) (locs : List Loc) (fh : Nat → Nat), k ≤ n + t / 32 + 1 → z h = (n, g, fh) → q_r fh → (∀ j, j < k → fh j = f j) → (∀ j, k ≤ j → j < n + t / 32 + 1 → fh j = q_rs n f (t % 32) ((j : Int) - ((t / 32 : Nat) : Int))) → (∀ b, b ≠ h → z b = z0 b) → lv_has ls 6 [(5, .int (nI k - nI 1)), (4, .int (nI (n + t / 32 + 1))), (3, .int (nI (t % 32))), (2, .int (nI (t / 32))), (0, .ref h), (1, .int (nI t))] → bd_W K E z (bd_A K sz) s.heap H locs → W p l e (headSpec wsX3_raise ({ frames := 2, cells := 0, slots := 0, locals := 60 })).room s m [.ref h, .int (nI t)].toArray below meth c H locs 0 0 (MQ below (va_Qv (fun u => u.1 = E ∧ bd_n (u.2 h) (v * ((2 ^ t : Nat) : Int)) ∧ ∀ b, b ≠ h → u.2 b = z0 b) (bd_B K) (bd_A K sz)) [.ref h, .int (nI t)].toArray s 0 0 (bd_A K sz)) (F0 m 45 ls []) from hloop (n + t / 32 + 1) z0 ls _ _ f (Nat.le_refl _) hz hf (fun _ _ => rfl) (fun j h1 h2 => absurd h1 (by omega)) ho (lv_sub hl [0, 1, 2, 3, 4, 5] rfl) hw
        clear hw hl ls ho hz
        intro k
        induction k using Nat.strongRecOn with
        | ind k ih =>
          intro z ls H locs fh hk hz hfh hlo hhi ho hl hw
          refine lv_iload hx hb dX3_raise_45 (lv_at hl 0 rfl) ?_
          refine bd_dlt (h1 := (by omega)) (tgt := 72) hx hb dX3_raise_47 (by decide) (fun hc47 => ?_) (fun hc47 => ?_)
          · refine lv_aload_n hx hb dX3_raise_72 rfl (lv_at hl 4 rfl) ?_
            refine lv_iload hx hb dX3_raise_73 (lv_at hl 1 rfl) ?_
            subst hc47
            have hq := q_raise hf h24 (fun j hj => hhi j (Nat.zero_le j) hj)
            refine bd_cv (As := [.int (nI (n + t / 32 + 1))]) (rest := []) C (c3_trim _ _ _ _ _ _ (n + t / 32 + 1) hh hz hm24 hfh) (cwV 1 hts gX3_raise_X3_trim rfl rfl rfl (by decide +kernel) ⟨Nat.le_of_ble_eq_true rfl, Nat.le_of_ble_eq_true rfl⟩) hsz hw (bd_recv C hw hh) dX3_raise_75 rfl hl.1 rfl (Nat.le_of_ble_eq_true rfl) ⟨Nat.le_refl _, Nat.le_refl _⟩ (fun E1 z H locs hp hw => ?_)
            obtain ⟨hE, hz2, hfr⟩ := hp
            rw [show E1 = E from hE] at hw
            have ho := bd_tr (z2 := z) hfr ho
            exact bd_vret C hr hlk hw dX3_raise_78 ⟨rfl, by rw [show (E, z).2 h = _ from hz2]; exact bd_fin hfh hm24 (okm.elim (fun q => Or.inr (by rw [hq, q.2, Nat.zero_mul])) (fun q => Or.inl q.1)) (by rw [hq, Int.natCast_mul, ← Int.mul_assoc, hvv]), ho⟩
          · rw [bd_sub1 hc47] at hl
            refine lv_aload_n hx hb dX3_raise_50 rfl (lv_at hl 4 rfl) ?_
            refine bd_grw C i3 hw hh hz dX3_raise_51 lk9 ?_
            refine lv_iload hx hb dX3_raise_54 (lv_at hl 0 rfl) ?_
            refine lv_aload_n hx hb dX3_raise_56 rfl (lv_at hl 4 rfl) ?_
            refine lv_iload hx hb dX3_raise_57 (lv_at hl 0 rfl) ?_
            refine lv_iload_n hx hb dX3_raise_59 rfl (lv_at hl 3 rfl) ?_
            refine bd_isub (v := (Int32.ofInt (((k - 1 : Nat) : Int) - ((t / 32 : Nat) : Int)))) hx hb dX3_raise_60 ((congrArg (· - nI (t / 32)) (bd_ofI (k - 1)).symm).trans (bd_ofI_sub _ _)) ?_
            refine lv_iload_n hx hb dX3_raise_61 rfl (lv_at hl 2 rfl) ?_
            refine bd_clp (As := [.int (Int32.ofInt (((k - 1 : Nat) : Int) - ((t / 32 : Nat) : Int))), .int (nI (t % 32))]) (rest := [.int (nI (k - 1)), .ref (bd_r K h)]) C (c3_raisedLimb _ _ _ _ _ _ (((k - 1 : Nat) : Int) - ((t / 32 : Nat) : Int)) (t % 32) hh hz h24 hfh (by omega) (by omega)) (cwV 2 hts gX3_raise_X3_raisedLimb rfl rfl rfl (by decide +kernel) ⟨Nat.le_of_ble_eq_true rfl, Nat.le_of_ble_eq_true rfl⟩) hsz hw (bd_recv C hw hh) dX3_raise_62 rfl hl.1 rfl (Nat.le_of_ble_eq_true rfl) ⟨Nat.le_refl _, Nat.le_refl _⟩ (fun H locs hw => ?_)
            rw [show q_rs n fh (t % 32) (((k - 1 : Nat) : Int) - ((t / 32 : Nat) : Int)) = q_rs n f (t % 32) (((k - 1 : Nat) : Int) - ((t / 32 : Nat) : Int)) by unfold q_rs; rw [q_at_cg hlo (by omega), q_at_cg hlo (by omega)]]
            refine bd_ast C hw hh hz dX3_raise_65 (by omega) (fun z H locs hz hfr hw => ?_)
            have hz : z h = (n, g, (va_up fh (k - 1) (q_rs n f (t % 32) (((k - 1 : Nat) : Int) - ((t / 32 : Nat) : Int))))) := hz
            have ho := bd_tr hfr ho
            refine lv_iinc (v := (nI (k - 1) - nI 1)) (lv' := [(5, .int (nI (k - 1) - nI 1)), (4, .int (nI (n + t / 32 + 1))), (3, .int (nI (t % 32))), (2, .int (nI (t / 32))), (0, .ref h), (1, .int (nI t))]) hx hb dX3_raise_66 hl (k := 0) rfl (bd_dec _) (by decide) rfl (fun ls hl => ?_)
            refine lv_goto (tgt := 45) hx hb dX3_raise_69 (by decide) ?_
            exact ih (k - 1) (by omega) z ls H locs _ (by omega) hz (q_r_up hfh (Nat.mod_lt _ (by decide))) (fun j hj => by rw [va_up_ne _ _ (by omega)]; exact hlo j (by omega)) (fun j h1 h2 => if q : j = k - 1 then by rw [q, va_up_self] else by rw [va_up_ne _ _ q]; exact hhi j (by omega) h2) ho (lv_sub hl [0, 1, 2, 3, 4, 5] rfl) hw
      · exact absurd hc35 (by omega)
