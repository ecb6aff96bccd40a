/-! Division.nextLimb (laid by wip/gen/m_div4.py) -/
theorem kn_fin0 {W1 W V g : Nat} (h : W1 + g * V = W) (hq : W / V ≤ g) (hV : 0 < V) : g = W / V ∧ W1 = W % V := by
  have h1 : g ≤ W / V := (Nat.le_div_iff_mul_le hV).mpr (by omega)
  have h2 : g = W / V := by
    generalize W / V = q at hq h1
    omega
  refine ⟨h2, ?_⟩
  have h3 := Nat.div_add_mod W V
  rw [← h2, Nat.mul_comm] at h3
  omega
theorem kn_fin1 {W1 W V g T : Nat} (h : W1 + g * V = W + T) (h1 : W1 < T) (hq : g ≤ W / V + 1) (hV : 0 < V) (hVT : V ≤ T) : 1 ≤ g ∧ g - 1 = W / V ∧ (W1 + V) % T = W % V := by
  have h2 : W < g * V := by omega
  have h3 : W / V < g := Nat.div_lt_of_lt_mul (by rw [Nat.mul_comm]; exact h2)
  have h4 := Nat.div_add_mod W V
  have h5 := Nat.mod_lt W hV
  generalize W / V = q at hq h3 h4
  generalize W % V = r at h4 h5
  have h6 : g = q + 1 := by omega
  subst h6
  rw [Nat.add_mul, Nat.one_mul, Nat.mul_comm q V] at h
  refine ⟨by omega, by omega, ?_⟩
  rw [show W1 + V = r + T by omega, Nat.add_mod_right, Nat.mod_eq_of_lt (by omega)]
set_option maxHeartbeats 4000000 in
set_option maxRecDepth 100000 in
/-- Division.nextLimb(j) -/
theorem c1_nextLimb (l : Launch) (K : Cxt) (E0 : Nat → va_E) (z0 : Nat → Wh) (sz dv rs bs : Nat) (j : Nat) {ln fl : Nat} {Fo Go : Nat → Nat} (hdv : dv_at K E0 dv rs bs ln fl Fo Go) (hF : ∀ k, k < 25 → Fo k < 4294967296) (hG : ∀ k, k < 24 → Go k < 4294967296) (hln : 0 < ln) (hj : j + ln ≤ 24) (hnm : 2147483648 ≤ Go (ln - 1)) (hWV : q_s (fun i => Fo (j + i)) (ln + 1) < 4294967296 * q_s Go ln) : Met l yX1_nextLimb wsX1_nextLimb ({ frames := 1, cells := 0, slots := 0, locals := 50 }) (va_Pc [.ref dv, .int (nI j)] (bd_P K E0 z0 sz)) (va_Ql (fun r u => u.2 = z0 ∧ r = lN (q_s (fun i => Fo (j + i)) (ln + 1) / q_s Go ln) ∧ ∃ F1 : Nat → Nat, dv_at K u.1 dv rs bs ln fl F1 Go ∧ dv_fr dv rs bs E0 u.1 ∧ (∀ k, k < 25 → F1 k < 4294967296) ∧ (∀ k, (k < j ∨ j + ln < k) → F1 k = Fo k) ∧ q_s (fun i => F1 (j + i)) (ln + 1) = q_s (fun i => Fo (j + i)) (ln + 1) % q_s Go ln) (bd_B K) (bd_A K sz)) 0 0 (bd_A K sz) := by
  refine bd_ofW (cc := cX1_nextLimb) (maxL := 4) (ret := (some .long)) (by decide) rfl (Nat.le_of_ble_eq_true rfl) ?_
  intro p e s m below meth c ls C hr hlk hsz hw hl
  have hx := C.1
  have hb := C.2.1
  have hown := C.2.2.2.1
  have hts := C.2.2.2.2.1
  have i1d : ∀ w ∈ wsX10, w ∈ wsX1_nextLimb := by decide +kernel
  have hoe : dv_fr dv rs bs E0 E0 := dv_rf
  have hl : lv_has ls 4 [(0, .ref dv), (1, .int (nI j))] := hl
  have hVp : 0 < q_s Go ln := q_nz (f := Go) (j := ln - 1) (by omega) (by omega)
  have hVT : q_s Go ln ≤ 4294967296 ^ (ln + 1) := Nat.le_of_lt (Nat.lt_of_lt_of_le (q_lt (fun k hk => hG k (by omega))) (Nat.pow_le_pow_right (by decide) (by omega)))
  refine lv_aload_n hx hb dX1_nextLimb_0 rfl (lv_at hl 0 rfl) ?_
  refine lv_iload_n hx hb dX1_nextLimb_1 rfl (lv_at hl 1 rfl) ?_
  refine bd_cl (As := [.int (nI j)]) (rest := []) C (c1_guess _ _ _ _ _ _ _ _ j hdv hF hG hln hj hnm hWV) (cwV 1 hts gX1_nextLimb_X1_guess rfl rfl rfl (by decide +kernel) ⟨Nat.le_of_ble_eq_true rfl, Nat.le_of_ble_eq_true rfl⟩) hsz hw (dv_recv C hw hdv) dX1_nextLimb_2 rfl hl.1 rfl (Nat.le_of_ble_eq_true rfl) ⟨Nat.le_refl _, Nat.le_refl _⟩ (fun r2 E1 z H locs hp hw => ?_)
  obtain ⟨he, g, hg, hgB, hg1, hg2⟩ := hp
  cases he
  subst hg
  refine lv_lstore_n (lv' := [(2, .long (lN g)), (0, .ref dv), (1, .int (nI j))]) hx hb dX1_nextLimb_5 rfl hl (by decide) rfl (fun ls hl => ?_)
  refine lv_aload_n hx hb dX1_nextLimb_6 rfl (lv_at hl 1 rfl) ?_
  refine lv_lload_n hx hb dX1_nextLimb_7 rfl (lv_at hl 0 rfl) ?_
  refine lv_iload_n hx hb dX1_nextLimb_8 rfl (lv_at hl 2 rfl) ?_
  refine bd_ci (As := [.long (lN g), .int (nI j)]) (rest := []) C (c1_subtract _ _ _ _ _ _ _ _ g j hdv hF hG hj hgB) (cwV 2 hts gX1_nextLimb_X1_subtract rfl rfl rfl (by decide +kernel) ⟨Nat.le_of_ble_eq_true rfl, Nat.le_of_ble_eq_true rfl⟩) hsz hw (dv_recv C hw hdv) dX1_nextLimb_9 rfl hl.1 rfl (Nat.le_of_ble_eq_true rfl) ⟨Nat.le_refl _, Nat.le_refl _⟩ (fun r9 E1 z H locs hp hw => ?_)
  obtain ⟨hz9, bb, F1, hbr, hbb, hdv, hfe, hF1, hun1, hv1⟩ := hp
  rw [show z = z0 from hz9] at hw
  subst hbr
  have hoe := dv_tr (E2 := E1) hfe hoe
  have hW1 : q_s (fun k => F1 (j + k)) (ln + 1) < 4294967296 ^ (ln + 1) := q_lt (fun k hk => hF1 _ (by omega))
  refine bd_zeq (h1 := (by omega)) (tgt := 24) hx hb dX1_nextLimb_12 (by decide) (fun hc12 => ?_) (fun hc12 => ?_)
  · refine lv_lload_n hx hb dX1_nextLimb_24 rfl (lv_at hl 0 rfl) ?_
    rw [hc12, Nat.zero_mul, Nat.add_zero] at hv1
    have hk := kn_fin0 hv1 hg1 hVp
    exact bd_lret C hr hlk hw dX1_nextLimb_25 ⟨rfl, congrArg lN hk.1, F1, hdv, hoe, hF1, hun1, hk.2⟩
  · refine lv_aload_n hx hb dX1_nextLimb_15 rfl (lv_at hl 1 rfl) ?_
    refine lv_iload_n hx hb dX1_nextLimb_16 rfl (lv_at hl 2 rfl) ?_
    have hb1 : bb = 1 := by omega
    rw [hb1, Nat.one_mul] at hv1
    have hk := kn_fin1 hv1 hW1 hg2 hVp hVT
    refine bd_cv (As := [.int (nI j)]) (rest := []) C (c1_addBack _ _ _ _ _ _ _ _ j hdv hF1 hG hj (by omega)) (cwV 1 hts gX1_nextLimb_X1_addBack rfl rfl rfl (by decide +kernel) ⟨Nat.le_of_ble_eq_true rfl, Nat.le_of_ble_eq_true rfl⟩) hsz hw (dv_recv C hw hdv) dX1_nextLimb_17 rfl hl.1 rfl (Nat.le_of_ble_eq_true rfl) ⟨Nat.le_refl _, Nat.le_refl _⟩ (fun E2 z H locs hp hw => ?_)
    obtain ⟨hz9, F2, hdv, hfe, hF2, hun2, hv2⟩ := hp
    rw [show z = z0 from hz9] at hw
    have hoe := dv_tr (E2 := E2) hfe hoe
    refine lv_lload_n hx hb dX1_nextLimb_20 rfl (lv_at hl 0 rfl) ?_
    refine lv_lconst (v := lN 1) hx hb dX1_nextLimb_21 rfl ?_
    refine bd_lsub (v := (lN (g - 1))) hx hb dX1_nextLimb_22 (lN_sub hk.1) ?_
    refine lv_lstore_n (lv' := [(2, .long (lN (g - 1))), (0, .ref dv), (1, .int (nI j))]) hx hb dX1_nextLimb_23 rfl hl (by decide) rfl (fun ls hl => ?_)
    refine lv_lload_n hx hb dX1_nextLimb_24 rfl (lv_at hl 0 rfl) ?_
    exact bd_lret C hr hlk hw dX1_nextLimb_25 ⟨rfl, by rw [hk.2.1], F2, hdv, hoe, hF2, fun k h => (hun2 k h).trans (hun1 k h), hv2.trans hk.2.2⟩
