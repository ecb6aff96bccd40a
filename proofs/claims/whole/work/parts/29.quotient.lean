/-! Division.quotient (laid by wip/gen/m_div5.py) -/
theorem dq_row {f : Nat → Nat} {k v N : Nat} (hk : 0 < k) : q_s (fun i => va_up f (k - 1) v (k - 1 + i)) (N + 1) = v + 4294967296 * q_s (fun i => f (k + i)) N := by
  rw [q_hd]
  show va_up f (k - 1) v (k - 1 + 0) + _ = _
  rw [Nat.add_zero, va_up_self]
  congr 2
  exact q_cg (fun j _ => by
    show va_up f (k - 1) v (k - 1 + (1 + j)) = _
    rw [va_up_ne _ _ (by omega)]
    exact congrArg f (by omega))
set_option maxHeartbeats 4000000 in
set_option maxRecDepth 100000 in
/-- Division.quotient(to, a, b): a by b, rounded down, into to -/
theorem c1_quotient (l : Launch) (K : Cxt) (E0 : Nat → va_E) (z0 : Nat → Wh) (sz dv rs bs : Nat) (to a b : Nat) {ln fl : Nat} {Fo Go : Nat → Nat} (hdv : dv_at K E0 dv rs bs ln fl Fo Go) (hF : ∀ k, k < 25 → Fo k < 4294967296) (hG : ∀ k, k < 24 → Go k < 4294967296) (hmt : to ∈ bd_N K) (hma : a ∈ bd_N K) (hmb : b ∈ bd_N K) {nt na nb : Nat} {gt ga gb : Int32} {ft fa fb : Nat → Nat} {va vb : Int} (hzt : z0 to = (nt, gt, ft)) (hza : z0 a = (na, ga, fa)) (hzb : z0 b = (nb, gb, fb)) (hft : q_r ft) (hva : bd_n (na, ga, fa) va) (hvb : bd_n (nb, gb, fb) vb) (hb0 : 0 < vb) (hbig : va.natAbs + 1 < 4294967296 ^ 24) : Met l yX1_quotient wsX1_quotient ({ frames := 3, cells := 0, slots := 0, locals := 100 }) (va_Pc [.ref dv, .ref to, .ref a, .ref b] (bd_P K E0 z0 sz)) (va_Qi (fun r u => (∃ (ln1 fl1 : Nat) (F1 G1 : Nat → Nat), dv_at K u.1 dv rs bs ln1 fl1 F1 G1 ∧ (∀ k, k < 25 → F1 k < 4294967296) ∧ (∀ k, k < 24 → G1 k < 4294967296)) ∧ dv_fr dv rs bs E0 u.1 ∧ bd_n (u.2 to) (va / vb) ∧ (∀ x, x ≠ to → u.2 x = z0 x) ∧ r = nI (if va % vb = 0 then 1 else 0)) (bd_B K) (bd_A K sz)) 0 0 (bd_A K sz) := by
  refine bd_ofW (cc := cX1_quotient) (maxL := 8) (ret := (some .boolean)) (by decide) rfl (Nat.le_of_ble_eq_true rfl) ?_
  intro p e s m below meth c ls C hr hlk hsz hw hl
  have hx := C.1
  have hb := C.2.1
  have hown := C.2.2.2.1
  have hts := C.2.2.2.2.1
  have i1d : ∀ w ∈ wsX10, w ∈ wsX1_quotient := by decide +kernel
  have i3 : ∀ w ∈ wsX30, w ∈ wsX1_quotient := by decide +kernel
  have lk28 : Cond.fieldLink RX1 28 "BallDesk$Division" "length" "I" ∈ wsX1_quotient := by decide +kernel
  have lk32 : Cond.fieldLink RX1 32 "BallDesk$Division" "filled" "I" ∈ wsX1_quotient := by decide +kernel
  have lk15 : Cond.fieldLink RX1 15 "BallDesk$Division" "by" "[J" ∈ wsX1_quotient := by decide +kernel
  have lk9 : Cond.fieldLink RX1 9 "BallDesk$Division" "rest" "[J" ∈ wsX1_quotient := by decide +kernel
  have hoe : dv_fr dv rs bs E0 E0 := dv_rf
  have hl : lv_has ls 8 [(0, .ref dv), (1, .ref to), (2, .ref a), (3, .ref b)] := hl
  have hsa := bd_n_sg hva
  have hmaa := bd_n_m hva
  have hmbb := bd_n_m hvb
  have hgb : gb = 1 := by
    rcases bd_n_sg hvb with q | q | q
    · omega
    · exact q.1
    · omega
  obtain ⟨h24a, hfa, hta⟩ := bd_ok_sz hva.1
  obtain ⟨h24b, hfb, htb⟩ := bd_ok_sz hvb.1
  have hnb0 : 0 < nb := by
    rcases Nat.eq_zero_or_pos nb with q | q
    · have h1 : q_s fb nb = 0 := by rw [q]; rfl
      omega
    · exact q
  have hsh := dq_sh hnb0 h24b hfb htb
  obtain ⟨sh, hshe⟩ : ∃ x, nb * 32 - q_bl (q_s fb nb) = x := ⟨_, rfl⟩
  have hsh2 : sh < 32 ∧ fb (nb - 1) * 2 ^ sh < 4294967296 ∧ 2147483648 ≤ fb (nb - 1) * 2 ^ sh := by rw [← hshe]; exact hsh.2
  refine lv_aload_n hx hb dX1_quotient_0 rfl (lv_at hl 3 rfl) ?_
  refine bd_cip (As := []) (rest := []) C (c3_sign _ _ _ _ _ _ hmb hzb) (cwV 0 hts gX1_quotient_X3_sign rfl rfl rfl (by decide +kernel) ⟨Nat.le_of_ble_eq_true rfl, Nat.le_of_ble_eq_true rfl⟩) hsz hw (bd_recv C hw hmb) dX1_quotient_1 rfl hl.1 rfl (Nat.le_of_ble_eq_true rfl) ⟨Nat.le_refl _, Nat.le_refl _⟩ (fun H locs hw => ?_)
  refine lv_if_gt (tgt := 13) hx hb dX1_quotient_4 (by decide) (fun hc4 => ?_) (fun hc4 => ?_)
  · refine lv_aload_n hx hb dX1_quotient_13 rfl (lv_at hl 0 rfl) ?_
    refine lv_aload_n hx hb dX1_quotient_14 rfl (lv_at hl 3 rfl) ?_
    refine bd_cip (As := []) (rest := [.ref dv]) C (c3_size _ _ _ _ _ _ hmb hzb) (cwV 0 hts gX1_quotient_X3_size rfl rfl rfl (by decide +kernel) ⟨Nat.le_of_ble_eq_true rfl, Nat.le_of_ble_eq_true rfl⟩) hsz hw (bd_recv C hw hmb) dX1_quotient_15 rfl hl.1 rfl (Nat.le_of_ble_eq_true rfl) ⟨Nat.le_refl _, Nat.le_refl _⟩ (fun H locs hw => ?_)
    refine dv_pln C i1d hw hdv dX1_quotient_18 lk28 (fun E H locs hdv hfe hw => ?_)
    have hoe := dv_tr hfe hoe
    refine lv_aload_n hx hb dX1_quotient_21 rfl (lv_at hl 0 rfl) ?_
    refine lv_aload_n hx hb dX1_quotient_22 rfl (lv_at hl 2 rfl) ?_
    refine bd_cip (As := []) (rest := [.ref dv]) C (c3_size _ _ _ _ _ _ hma hza) (cwV 0 hts gX1_quotient_X3_size rfl rfl rfl (by decide +kernel) ⟨Nat.le_of_ble_eq_true rfl, Nat.le_of_ble_eq_true rfl⟩) hsz hw (bd_recv C hw hma) dX1_quotient_23 rfl hl.1 rfl (Nat.le_of_ble_eq_true rfl) ⟨Nat.le_refl _, Nat.le_refl _⟩ (fun H locs hw => ?_)
    refine lv_iconst (v := nI 1) hx hb dX1_quotient_26 (by decide) ?_
    refine bd_iadd (v := (nI (na + 1))) hx hb dX1_quotient_27 (nI_add _ _) ?_
    refine dv_pfl C i1d hw hdv dX1_quotient_28 lk32 (fun E H locs hdv hfe hw => ?_)
    have hoe := dv_tr hfe hoe
    refine lv_aload_n hx hb dX1_quotient_31 rfl (lv_at hl 2 rfl) ?_
    refine bd_cip (As := []) (rest := []) C (c3_sign _ _ _ _ _ _ hma hza) (cwV 0 hts gX1_quotient_X3_sign rfl rfl rfl (by decide +kernel) ⟨Nat.le_of_ble_eq_true rfl, Nat.le_of_ble_eq_true rfl⟩) hsz hw (bd_recv C hw hma) dX1_quotient_32 rfl hl.1 rfl (Nat.le_of_ble_eq_true rfl) ⟨Nat.le_refl _, Nat.le_refl _⟩ (fun H locs hw => ?_)
    refine lv_istore (lv' := [(4, .int ga), (0, .ref dv), (1, .ref to), (2, .ref a), (3, .ref b)]) hx hb dX1_quotient_35 hl (by decide) rfl (fun ls hl => ?_)
    refine lv_iconst (v := nI 0) hx hb dX1_quotient_37 (by decide) ?_
    refine lv_aload_n hx hb dX1_quotient_38 rfl (lv_at hl 1 rfl) ?_
    refine dv_gfl C i1d hw hdv dX1_quotient_39 lk32 ?_
    refine lv_aload_n hx hb dX1_quotient_42 rfl (lv_at hl 1 rfl) ?_
    refine dv_gln C i1d hw hdv dX1_quotient_43 lk28 ?_
    refine bd_isub (v := (nI (na + 1) - nI nb)) hx hb dX1_quotient_46 (rfl) ?_
    refine va_mmax hx hb (C.2.2.1.trans hl.1.symm) hown (hts (.methodLink RX1 35 Lib.Math.max.name) (by decide +kernel)) (hts (.static Lib.Math.max.name) (by decide +kernel)) (hts (.initialized "java/lang/Math") (by decide +kernel)) (hts (.code Lib.Math.max.name Lib.Math.max.code 2 (some .int)) (by decide +kernel)) (Nat.le_of_ble_eq_true rfl) (Nat.le_of_ble_eq_true rfl) (Nat.le_refl _) (Nat.le_refl _) dX1_quotient_47 ?_
    rw [bd_maxs (by omega) (by omega)]
    refine lv_istore (lv' := [(5, .int (nI (na + 1 - nb))), (4, .int ga), (0, .ref dv), (1, .ref to), (2, .ref a), (3, .ref b)]) hx hb dX1_quotient_50 hl (by decide) rfl (fun ls hl => ?_)
    refine lv_aload_n hx hb dX1_quotient_52 rfl (lv_at hl 2 rfl) ?_
    refine dv_gln C i1d hw hdv dX1_quotient_53 lk28 ?_
    refine lv_bipush (v := nI 32) hx hb dX1_quotient_56 (by decide) ?_
    refine bd_imul (v := (nI (nb * 32))) hx hb dX1_quotient_58 (pk_mul _ _) ?_
    refine lv_aload_n hx hb dX1_quotient_59 rfl (lv_at hl 5 rfl) ?_
    refine bd_cip (As := []) (rest := [.int (nI (nb * 32))]) C (c3_bits _ _ _ _ _ _ hmb hzb h24b hfb htb) (cwV 0 hts gX1_quotient_X3_bits rfl rfl rfl (by decide +kernel) ⟨Nat.le_of_ble_eq_true rfl, Nat.le_of_ble_eq_true rfl⟩) hsz hw (bd_recv C hw hmb) dX1_quotient_60 rfl hl.1 rfl (Nat.le_of_ble_eq_true rfl) ⟨Nat.le_refl _, Nat.le_refl _⟩ (fun H locs hw => ?_)
    refine bd_isub (v := (nI sh)) hx hb dX1_quotient_63 ((pk_sub hsh.1).trans (congrArg nI hshe)) ?_
    refine lv_istore (lv' := [(6, .int (nI sh)), (5, .int (nI (na + 1 - nb))), (4, .int ga), (0, .ref dv), (1, .ref to), (2, .ref a), (3, .ref b)]) hx hb dX1_quotient_64 hl (by decide) rfl (fun ls hl => ?_)
    refine lv_iconst (v := nI 0) hx hb dX1_quotient_66 (by decide) ?_
    refine lv_istore (lv' := [(7, .int (nI 0)), (6, .int (nI sh)), (5, .int (nI (na + 1 - nb))), (4, .int ga), (0, .ref dv), (1, .ref to), (2, .ref a), (3, .ref b)]) hx hb dX1_quotient_67 hl (by decide) rfl (fun ls hl => ?_)
    suffices hloop : ∀ (d i : Nat) (E : Nat → va_E) (ls : Array Slot) (H : Heap) (locs : List Loc) (F : Nat → Nat), i + d = na + 1 → dv_at K E dv rs bs nb (na + 1) F Go → dv_fr dv rs bs E0 E → (∀ k, k < 25 → F k < 4294967296) → (∀ j, j < i → F j = q_rs na fa sh (j : Int)) → lv_has ls 8 [(7, .int (nI i)), (6, .int (nI sh)), (5, .int (nI (na + 1 - nb))), (4, .int ga), (0, .ref dv), (1, .ref to), (2, .ref a), (3, .ref b)] → bd_W K E z0 (bd_A K sz) s.heap H locs → W p l e (headSpec wsX1_quotient ({ frames := 3, cells := 0, slots := 0, locals := 100 })).room s m [.ref dv, .ref to, .ref a, .ref b].toArray below meth c H locs 0 0 (MQ below (va_Qi (fun r u => (∃ (ln1 fl1 : Nat) (F1 G1 : Nat → Nat), dv_at K u.1 dv rs bs ln1 fl1 F1 G1 ∧ (∀ k, k < 25 → F1 k < 4294967296) ∧ (∀ k, k < 24 → G1 k < 4294967296)) ∧ dv_fr dv rs bs E0 u.1 ∧ bd_n (u.2 to) (va / vb) ∧ (∀ x, x ≠ to → u.2 x = z0 x) ∧ r = nI (if va % vb = 0 then 1 else 0)) (bd_B K) (bd_A K sz)) [.ref dv, .ref to, .ref a, .ref b].toArray s 0 0 (bd_A K sz)) (F0 m 69 ls []) from hloop (na + 1) 0 E ls _ _ Fo (by omega) hdv hoe hF (fun j hj => absurd hj (by omega)) (lv_sub hl [0, 1, 2, 3, 4, 5, 6, 7] rfl) hw
    clear hw hl ls hdv hoe hfe
    intro d
    induction d using Nat.strongRecOn with
    | ind d ih =>
      intro i E ls H locs F hid hdv hoe hFF hI hl hw
      refine lv_iload hx hb dX1_quotient_69 (lv_at hl 0 rfl) ?_
      refine lv_aload_n hx hb dX1_quotient_71 rfl (lv_at hl 4 rfl) ?_
      refine dv_gfl C i1d hw hdv dX1_quotient_72 lk32 ?_
      refine bd_ige (h1 := (by omega)) (h2 := (by omega)) (tgt := 99) hx hb dX1_quotient_75 (by decide) (fun hc75 => ?_) (fun hc75 => ?_)
      · refine lv_iconst (v := nI 0) hx hb dX1_quotient_99 (by decide) ?_
        refine lv_istore (lv' := [(7, .int (nI 0)), (6, .int (nI sh)), (5, .int (nI (na + 1 - nb))), (4, .int ga), (0, .ref dv), (1, .ref to), (2, .ref a), (3, .ref b)]) hx hb dX1_quotient_100 hl (by decide) rfl (fun ls hl => ?_)
        have hI : ∀ j, j < na + 1 → F j = q_rs na fa sh (j : Int) := fun j hj => hI j (by omega)
        clear ih
        suffices hloop : ∀ (d i : Nat) (E : Nat → va_E) (ls : Array Slot) (H : Heap) (locs : List Loc) (G : Nat → Nat), i + d = nb → dv_at K E dv rs bs nb (na + 1) F G → dv_fr dv rs bs E0 E → (∀ k, k < 24 → G k < 4294967296) → (∀ j, j < i → G j = q_rs nb fb sh (j : Int)) → lv_has ls 8 [(7, .int (nI i)), (6, .int (nI sh)), (5, .int (nI (na + 1 - nb))), (4, .int ga), (0, .ref dv), (1, .ref to), (2, .ref a), (3, .ref b)] → bd_W K E z0 (bd_A K sz) s.heap H locs → W p l e (headSpec wsX1_quotient ({ frames := 3, cells := 0, slots := 0, locals := 100 })).room s m [.ref dv, .ref to, .ref a, .ref b].toArray below meth c H locs 0 0 (MQ below (va_Qi (fun r u => (∃ (ln1 fl1 : Nat) (F1 G1 : Nat → Nat), dv_at K u.1 dv rs bs ln1 fl1 F1 G1 ∧ (∀ k, k < 25 → F1 k < 4294967296) ∧ (∀ k, k < 24 → G1 k < 4294967296)) ∧ dv_fr dv rs bs E0 u.1 ∧ bd_n (u.2 to) (va / vb) ∧ (∀ x, x ≠ to → u.2 x = z0 x) ∧ r = nI (if va % vb = 0 then 1 else 0)) (bd_B K) (bd_A K sz)) [.ref dv, .ref to, .ref a, .ref b].toArray s 0 0 (bd_A K sz)) (F0 m 102 ls []) from hloop nb 0 E ls _ _ Go (by omega) hdv hoe hG (fun j hj => absurd hj (by omega)) (lv_sub hl [0, 1, 2, 3, 4, 5, 6, 7] rfl) hw
        clear hw hl ls hdv hoe
        intro d
        induction d using Nat.strongRecOn with
        | ind d ih =>
          intro i E ls H locs G hid hdv hoe hGG hJ hl hw
          refine lv_iload hx hb dX1_quotient_102 (lv_at hl 0 rfl) ?_
          refine lv_aload_n hx hb dX1_quotient_104 rfl (lv_at hl 4 rfl) ?_
          refine dv_gln C i1d hw hdv dX1_quotient_105 lk28 ?_
          refine bd_ige (h1 := (by omega)) (h2 := (by omega)) (tgt := 132) hx hb dX1_quotient_108 (by decide) (fun hc108 => ?_) (fun hc108 => ?_)
          · refine lv_iload hx hb dX1_quotient_132 (lv_at hl 2 rfl) ?_
            refine lv_iconst (v := nI 1) hx hb dX1_quotient_134 (by decide) ?_
            refine bd_isub (v := (nI (na + 1 - nb) - nI 1)) hx hb dX1_quotient_135 (rfl) ?_
            refine lv_istore (lv' := [(7, .int (nI (na + 1 - nb) - nI 1)), (6, .int (nI sh)), (5, .int (nI (na + 1 - nb))), (4, .int ga), (0, .ref dv), (1, .ref to), (2, .ref a), (3, .ref b)]) hx hb dX1_quotient_136 hl (by decide) rfl (fun ls hl => ?_)
            have hJ : ∀ j, j < nb → G j = q_rs nb fb sh (j : Int) := fun j hj => hJ j (by omega)
            clear ih
            have hV := dq_V hnb0 h24b hfb hsh2.1 hsh2.2.1 hsh2.2.2 hJ
            have hN := dq_N h24a hfa hsh2.1 hI
            have hFo1 : q_ok F (na + 1) := fun j hj => hFF j (by omega)
            have htop := dq_top (q_r_ok hfa h24a) hnb0 htb hN hFo1
            have hVB : q_s G nb < 4294967296 ^ nb := q_lt (fun j hj => hGG j (by omega))
            rw [← hV.1] at htop
            suffices hloop : ∀ (k : Nat) (E : Nat → va_E) (z : Nat → Wh) (ls : Array Slot) (H : Heap) (locs : List Loc) (F2 fh : Nat → Nat), k ≤ na + 1 - nb → dv_at K E dv rs bs nb (na + 1) F2 G → dv_fr dv rs bs E0 E → (∀ k, k < 25 → F2 k < 4294967296) → z to = (nt, gt, fh) → q_r fh → (∀ x, x ≠ to → z x = z0 x) → (∀ i, i < k → F2 i = F i) → (∀ i, k + nb ≤ i → i < na + 1 → F2 i = 0) → q_s (fun i => F (k + i)) (na + 1 - k) = q_s G nb * q_s (fun i => fh (k + i)) (na + 1 - nb - k) + q_s (fun i => F2 (k + i)) (min nb (na + 1 - k)) → q_s (fun i => F2 (k + i)) (min nb (na + 1 - k)) < q_s G nb → lv_has ls 8 [(7, .int (nI k - nI 1)), (6, .int (nI sh)), (5, .int (nI (na + 1 - nb))), (4, .int ga), (0, .ref dv), (1, .ref to), (2, .ref a), (3, .ref b)] → bd_W K E z (bd_A K sz) s.heap H locs → W p l e (headSpec wsX1_quotient ({ frames := 3, cells := 0, slots := 0, locals := 100 })).room s m [.ref dv, .ref to, .ref a, .ref b].toArray below meth c H locs 0 0 (MQ below (va_Qi (fun r u => (∃ (ln1 fl1 : Nat) (F1 G1 : Nat → Nat), dv_at K u.1 dv rs bs ln1 fl1 F1 G1 ∧ (∀ k, k < 25 → F1 k < 4294967296) ∧ (∀ k, k < 24 → G1 k < 4294967296)) ∧ dv_fr dv rs bs E0 u.1 ∧ bd_n (u.2 to) (va / vb) ∧ (∀ x, x ≠ to → u.2 x = z0 x) ∧ r = nI (if va % vb = 0 then 1 else 0)) (bd_B K) (bd_A K sz)) [.ref dv, .ref to, .ref a, .ref b].toArray s 0 0 (bd_A K sz)) (F0 m 138 ls []) from hloop (na + 1 - nb) E z0 ls _ _ F ft (Nat.le_refl _) hdv hoe hFF hzt hft (fun _ _ => rfl) (fun _ _ => rfl) (fun i h1 h2 => absurd h1 (by omega)) (by rw [Nat.sub_self, show min nb (na + 1 - (na + 1 - nb)) = na + 1 - (na + 1 - nb) by omega]; show _ = _ * 0 + _; rw [Nat.mul_zero, Nat.zero_add]) htop (lv_sub hl [0, 1, 2, 3, 4, 5, 6, 7] rfl) hw
            clear hw hl ls hdv hoe
            intro k
            induction k using Nat.strongRecOn with
            | ind k ih =>
              intro E z ls H locs F2 fh hk hdv hoe hF2 hz9 hfh ho hlow hhi hinv hT hl hw
              refine lv_iload hx hb dX1_quotient_138 (lv_at hl 0 rfl) ?_
              refine bd_dlt (h1 := (by omega)) (tgt := 162) hx hb dX1_quotient_140 (by decide) (fun hc140 => ?_) (fun hc140 => ?_)
              · subst hc140
                simp only [Nat.zero_add, Nat.sub_zero] at hinv hT
                rw [show q_s (fun i => F i) (na + 1) = _ from hN] at hinv
                have hrest : q_s F2 (na + 1) = q_s (fun i => F2 i) (min nb (na + 1)) := by
                  have h1 := q_z (g := F2) (n := min nb (na + 1)) (k := na + 1 - min nb (na + 1)) (fun j h1 h2 => hhi j (by omega) (by omega))
                  rw [show min nb (na + 1) + (na + 1 - min nb (na + 1)) = na + 1 by omega] at h1
                  exact h1
                rw [hV.1] at hinv hT
                have hde := dq_end hinv hT
                rw [← hrest] at hde
                have hQe : q_s fh (na + 1 - nb) = q_s fa na / q_s fb nb := hde.1
                have hmod := Nat.div_add_mod (q_s fa na) (q_s fb nb)
                have hbp : 0 < q_s fb nb := by omega
                have hml := Nat.mod_lt (q_s fa na) hbp
                have hQl : q_s fa na / q_s fb nb ≤ q_s fa na := Nat.div_le_self _ _
                have hvbe : vb = ((q_s fb nb : Nat) : Int) := by omega
                have hjust : va % vb = 0 ↔ q_s fa na % q_s fb nb = 0 := by
                  rw [← Int.dvd_iff_emod_eq_zero, ← Nat.dvd_iff_mod_eq_zero, hmaa, hmbb, Int.natAbs_dvd_natAbs]
                have hjn : nI (if q_s F2 (na + 1) = 0 then 1 else 0) = nI (if va % vb = 0 then 1 else 0) := by
                  by_cases q : va % vb = 0
                  · rw [if_pos q, if_pos (hde.2.mpr (hjust.mp q))]
                  · rw [if_neg q, if_neg (fun r => q (hjust.mpr (hde.2.mp r)))]
                refine lv_aload_n hx hb dX1_quotient_162 rfl (lv_at hl 4 rfl) ?_
                refine bd_cip (As := []) (rest := []) C (c1_isNothingLeft _ _ _ _ _ _ _ _ hdv hF2 (by omega)) (cwV 0 hts gX1_quotient_X1_isNothingLeft rfl rfl rfl (by decide +kernel) ⟨Nat.le_of_ble_eq_true rfl, Nat.le_of_ble_eq_true rfl⟩) hsz hw (dv_recv C hw hdv) dX1_quotient_163 rfl hl.1 rfl (Nat.le_of_ble_eq_true rfl) ⟨Nat.le_refl _, Nat.le_refl _⟩ (fun H locs hw => ?_)
                rw [hjn]
                refine lv_istore (lv' := [(7, .int (nI (if va % vb = 0 then 1 else 0))), (6, .int (nI sh)), (5, .int (nI (na + 1 - nb))), (4, .int ga), (0, .ref dv), (1, .ref to), (2, .ref a), (3, .ref b)]) hx hb dX1_quotient_166 hl (by decide) rfl (fun ls hl => ?_)
                refine lv_aload_n hx hb dX1_quotient_168 rfl (lv_at hl 5 rfl) ?_
                refine lv_iload hx hb dX1_quotient_169 (lv_at hl 3 rfl) ?_
                refine bd_psgN C i3 hw hmt hz9 dX1_quotient_171 (List.mem_of_getElem? (i := 1) rfl) (fun z H locs hz9 hfr hw => ?_)
                have ho : ∀ x, x ≠ to → z x = z0 x := fun x hx => (hfr x hx).trans (ho x hx)
                refine lv_aload_n hx hb dX1_quotient_174 rfl (lv_at hl 5 rfl) ?_
                refine lv_iload hx hb dX1_quotient_175 (lv_at hl 2 rfl) ?_
                refine bd_cv (As := [.int (nI (na + 1 - nb))]) (rest := []) C (c3_trim _ _ _ _ _ _ (na + 1 - nb) hmt hz9 (by omega) hfh) (cwV 1 hts gX1_quotient_X3_trim rfl rfl rfl (by decide +kernel) ⟨Nat.le_of_ble_eq_true rfl, Nat.le_of_ble_eq_true rfl⟩) hsz hw (bd_recv C hw hmt) dX1_quotient_177 rfl hl.1 rfl (Nat.le_of_ble_eq_true rfl) ⟨Nat.le_refl _, Nat.le_refl _⟩ (fun E1 z H locs hp hw => ?_)
                obtain ⟨hE, hz2, hfr⟩ := hp
                rw [show E1 = E from hE] at hw
                have hz9 : z to = (q_tr fh (na + 1 - nb), (if q_tr fh (na + 1 - nb) = 0 then 0 else ga), fh) := hz2
                have ho : ∀ x, x ≠ to → z x = z0 x := fun x hx => (hfr x hx).trans (ho x hx)
                refine lv_iload hx hb dX1_quotient_180 (lv_at hl 3 rfl) ?_
                refine lv_if_ge (tgt := 194) hx hb dX1_quotient_182 (by decide) (fun hc182 => ?_) (fun hc182 => ?_)
                · refine lv_iload hx hb dX1_quotient_194 (lv_at hl 0 rfl) ?_
                  have hfin : bd_n (z to) (va / vb) := by
                    rw [hz9, hvbe]
                    rcases hsa with q | q | q
                    · have h1 : q_s fa na = 0 := by omega
                      have h2 : q_s fh (na + 1 - nb) = 0 := by omega
                      refine bd_fin hfh (by omega) (Or.inr h2) ?_
                      rw [h2, q.2]
                      simp
                    · refine bd_fin hfh (by omega) (Or.inl (Or.inl q.1)) ?_
                      rw [q.1, i1, Int.one_mul, hQe, ← fl_pos hmod.symm hml]
                      congr 1
                      omega
                    · rw [q.1] at hc182; exact absurd hc182 (by decide +kernel)
                  exact bd_zret C hr hlk hw dX1_quotient_196 dv_01 ⟨⟨_, _, _, _, hdv, hF2, hGG⟩, hoe, hfin, ho, rfl⟩
                · refine lv_iload hx hb dX1_quotient_185 (lv_at hl 0 rfl) ?_
                  refine bd_zne (h1 := by split <;> decide) (tgt := 194) hx hb dX1_quotient_187 (by decide) (fun hq => ?_) (fun hq => ?_)
                  · have hj0 : va % vb = 0 := by
                      rcases Decidable.em (va % vb = 0) with q | q
                      · exact q
                      · rw [if_neg q] at hq
                        exact absurd hq (by decide)
                    refine lv_iload hx hb dX1_quotient_194 (lv_at hl 0 rfl) ?_
                    have hfin : bd_n (z to) (va / vb) := by
                      rw [hz9, hvbe]
                      rcases hsa with q | q | q
                      · have h1 : q_s fa na = 0 := by omega
                        have h2 : q_s fh (na + 1 - nb) = 0 := by omega
                        refine bd_fin hfh (by omega) (Or.inr h2) ?_
                        rw [h2, q.2]
                        simp
                      · refine bd_fin hfh (by omega) (Or.inl (Or.inl q.1)) ?_
                        rw [q.1, i1, Int.one_mul, hQe, ← fl_pos hmod.symm hml]
                        congr 1
                        omega
                      · refine bd_fin hfh (by omega) (Or.inl (Or.inr q.1)) ?_
                        rw [hjust.mp hj0, Nat.add_zero] at hmod
                        rw [q.1, im1, Int.neg_one_mul, hQe, ← fl_neg0 hmod.symm hbp]
                        congr 1
                        omega
                    exact bd_zret C hr hlk hw dX1_quotient_196 dv_01 ⟨⟨_, _, _, _, hdv, hF2, hGG⟩, hoe, hfin, ho, rfl⟩
                  · have hj0 : ¬ va % vb = 0 := fun q => by
                      rw [if_pos q] at hq
                      exact absurd hq (by decide)
                    refine lv_aload_n hx hb dX1_quotient_190 rfl (lv_at hl 5 rfl) ?_
                    refine bd_cv (As := []) (rest := []) C (c3_stepDown _ _ _ _ _ _ hmt hz9 (Nat.le_trans (q_tr_le _ _) (by omega)) hfh (q_tr_top fh (na + 1 - nb)) (by rw [q_tr_val, hQe]; omega)) (cwV 0 hts gX1_quotient_X3_stepDown rfl rfl rfl (by decide +kernel) ⟨Nat.le_of_ble_eq_true rfl, Nat.le_of_ble_eq_true rfl⟩) hsz hw (bd_recv C hw hmt) dX1_quotient_191 rfl hl.1 rfl (Nat.le_of_ble_eq_true rfl) ⟨Nat.le_refl _, Nat.le_refl _⟩ (fun E1 z H locs hp hw => ?_)
                    obtain ⟨hE, hn2, hfr⟩ := hp
                    rw [show E1 = E from hE] at hw
                    rw [q_tr_val, hQe] at hn2
                    have ho : ∀ x, x ≠ to → z x = z0 x := fun x hx => (hfr x hx).trans (ho x hx)
                    have hfin : bd_n (z to) (va / vb) := by
                      have h1 : va = -((q_s fa na : Nat) : Int) := by
                        rcases hsa with q | q | q
                        · rw [q.1] at hc182; exact absurd (by decide +kernel) hc182
                        · rw [q.1] at hc182; exact absurd (by decide +kernel) hc182
                        · omega
                      rw [h1, hvbe, fl_neg hmod.symm hml (Nat.pos_of_ne_zero (fun q => hj0 (hjust.mpr q)))]
                      exact hn2
                    refine lv_iload hx hb dX1_quotient_194 (lv_at hl 0 rfl) ?_
                    exact bd_zret C hr hlk hw dX1_quotient_196 dv_01 ⟨⟨_, _, _, _, hdv, hF2, hGG⟩, hoe, hfin, ho, rfl⟩
              · rw [bd_sub1 hc140] at hl
                have hmin : min nb (na + 1 - k) = nb := by omega
                have hmin1 : min nb (na + 1 - (k - 1)) = nb := by omega
                rw [hmin] at hinv hT
                have hwin : q_s (fun i => F2 (k - 1 + i)) (nb + 1) = F (k - 1) + 4294967296 * q_s (fun i => F2 (k + i)) nb := by
                  rw [q_hd]
                  show F2 (k - 1 + 0) + _ = _
                  rw [Nat.add_zero, hlow (k - 1) (by omega)]
                  congr 2
                  exact q_cg (fun i _ => congrArg F2 (by omega))
                have hWV : q_s (fun i => F2 (k - 1 + i)) (nb + 1) < 4294967296 * q_s G nb := by
                  rw [hwin]
                  have h1 := hFF (k - 1) (by omega)
                  omega
                have hqB : q_s (fun i => F2 (k - 1 + i)) (nb + 1) / q_s G nb < 4294967296 := Nat.div_lt_of_lt_mul (by rw [Nat.mul_comm]; exact hWV)
                refine lv_aload_n hx hb dX1_quotient_143 rfl (lv_at hl 5 rfl) ?_
                refine bd_grwN C i3 hw hmt hz9 dX1_quotient_144 (List.mem_of_getElem? (i := 0) rfl) ?_
                refine lv_iload hx hb dX1_quotient_147 (lv_at hl 0 rfl) ?_
                refine lv_aload_n hx hb dX1_quotient_149 rfl (lv_at hl 4 rfl) ?_
                refine lv_iload hx hb dX1_quotient_150 (lv_at hl 0 rfl) ?_
                refine bd_cl (As := [.int (nI (k - 1))]) (rest := [.int (nI (k - 1)), .ref (bd_r K to)]) C (c1_nextLimb _ _ _ _ _ _ _ _ (k - 1) hdv hF2 hGG hnb0 (by omega) hV.2 hWV) (cwV 1 hts gX1_quotient_X1_nextLimb rfl rfl rfl (by decide +kernel) ⟨Nat.le_of_ble_eq_true rfl, Nat.le_of_ble_eq_true rfl⟩) hsz hw (dv_recv C hw hdv) dX1_quotient_152 rfl hl.1 rfl (Nat.le_of_ble_eq_true rfl) ⟨Nat.le_refl _, Nat.le_refl _⟩ (fun r152 E1 z1 H locs hp hw => ?_)
                obtain ⟨hz8, hr8, F1, hdv, hfe, hF1, hun1, hW1⟩ := hp
                rw [show z1 = z from hz8] at hw
                subst hr8
                have hoe := dv_tr (E2 := E1) hfe hoe
                have hst := dq_step (r := fh) hc140 (by omega) rfl hlow (fun i h1 h2 => hhi i h1 h2) hinv hT hVB (fun i hi => hF1 i (by omega)) hun1 hW1
                refine bd_ast C hw hmt hz9 dX1_quotient_155 (by omega) (fun z H locs hz9 hfr hw => ?_)
                have ho : ∀ x, x ≠ to → z x = z0 x := fun x hx => (hfr x hx).trans (ho x hx)
                refine lv_iinc (v := (nI (k - 1) - nI 1)) (lv' := [(7, .int (nI (k - 1) - nI 1)), (6, .int (nI sh)), (5, .int (nI (na + 1 - nb))), (4, .int ga), (0, .ref dv), (1, .ref to), (2, .ref a), (3, .ref b)]) hx hb dX1_quotient_156 hl (k := 0) rfl (bd_dec _) (by decide) rfl (fun ls hl => ?_)
                refine lv_goto (tgt := 138) hx hb dX1_quotient_159 (by decide) ?_
                exact ih (k - 1) (by omega) E1 z ls H locs F1 _ (by omega) hdv hoe hF1 hz9 (q_r_up hfh hqB) ho hst.2.1 hst.2.2.1 (hst.2.2.2.1.trans (by rw [hmin1, show na + 1 - nb - (k - 1) = (na + 1 - nb - k) + 1 by omega, dq_row hc140])) (by rw [hmin1]; exact hst.2.2.2.2) (lv_sub hl [0, 1, 2, 3, 4, 5, 6, 7] rfl) hw
          · refine lv_aload_n hx hb dX1_quotient_111 rfl (lv_at hl 4 rfl) ?_
            refine dv_gbs C i1d hw hdv dX1_quotient_112 lk15 ?_
            refine lv_iload hx hb dX1_quotient_115 (lv_at hl 0 rfl) ?_
            refine lv_aload_n hx hb dX1_quotient_117 rfl (lv_at hl 7 rfl) ?_
            refine lv_iload hx hb dX1_quotient_118 (lv_at hl 0 rfl) ?_
            refine lv_iload hx hb dX1_quotient_120 (lv_at hl 1 rfl) ?_
            have h9 := c3_raisedLimb l K E z0 H.size b (i : Int) sh hmb hzb h24b hfb (by omega) hsh2.1
            rw [bd_ofI] at h9
            refine bd_clp (As := [.int (nI i), .int (nI sh)]) (rest := [.int (nI i), .ref bs]) C (h9) (cwV 2 hts gX1_quotient_X3_raisedLimb rfl rfl rfl (by decide +kernel) ⟨Nat.le_of_ble_eq_true rfl, Nat.le_of_ble_eq_true rfl⟩) hsz hw (bd_recv C hw hmb) dX1_quotient_122 rfl hl.1 rfl (Nat.le_of_ble_eq_true rfl) ⟨Nat.le_refl _, Nat.le_refl _⟩ (fun H locs hw => ?_)
            refine dv_stB C hw hdv dX1_quotient_125 (by omega) (fun E H locs hdv hfe hw => ?_)
            have hoe := dv_tr hfe hoe
            refine lv_iinc (v := (nI (i + 1))) (lv' := [(7, .int (nI (i + 1))), (6, .int (nI sh)), (5, .int (nI (na + 1 - nb))), (4, .int ga), (0, .ref dv), (1, .ref to), (2, .ref a), (3, .ref b)]) hx hb dX1_quotient_126 hl (k := 0) rfl (nI_1 _) (by decide) rfl (fun ls hl => ?_)
            refine lv_goto (tgt := 102) hx hb dX1_quotient_129 (by decide) ?_
            exact ih (d - 1) (by omega) (i + 1) E ls H locs _ (by omega) hdv hoe (dv_up hGG (Nat.mod_lt _ (by decide))) (fun j hj => if q : j = i then by rw [q, va_up_self] else by rw [va_up_ne _ _ q]; exact hJ j (by omega)) (lv_sub hl [0, 1, 2, 3, 4, 5, 6, 7] rfl) hw
      · refine lv_aload_n hx hb dX1_quotient_78 rfl (lv_at hl 4 rfl) ?_
        refine dv_grs C i1d hw hdv dX1_quotient_79 lk9 ?_
        refine lv_iload hx hb dX1_quotient_82 (lv_at hl 0 rfl) ?_
        refine lv_aload_n hx hb dX1_quotient_84 rfl (lv_at hl 6 rfl) ?_
        refine lv_iload hx hb dX1_quotient_85 (lv_at hl 0 rfl) ?_
        refine lv_iload hx hb dX1_quotient_87 (lv_at hl 1 rfl) ?_
        have h9 := c3_raisedLimb l K E z0 H.size a (i : Int) sh hma hza h24a hfa (by omega) hsh2.1
        rw [bd_ofI] at h9
        refine bd_clp (As := [.int (nI i), .int (nI sh)]) (rest := [.int (nI i), .ref rs]) C (h9) (cwV 2 hts gX1_quotient_X3_raisedLimb rfl rfl rfl (by decide +kernel) ⟨Nat.le_of_ble_eq_true rfl, Nat.le_of_ble_eq_true rfl⟩) hsz hw (bd_recv C hw hma) dX1_quotient_89 rfl hl.1 rfl (Nat.le_of_ble_eq_true rfl) ⟨Nat.le_refl _, Nat.le_refl _⟩ (fun H locs hw => ?_)
        refine dv_stR C hw hdv dX1_quotient_92 (by omega) (fun E H locs hdv hfe hw => ?_)
        have hoe := dv_tr hfe hoe
        refine lv_iinc (v := (nI (i + 1))) (lv' := [(7, .int (nI (i + 1))), (6, .int (nI sh)), (5, .int (nI (na + 1 - nb))), (4, .int ga), (0, .ref dv), (1, .ref to), (2, .ref a), (3, .ref b)]) hx hb dX1_quotient_93 hl (k := 0) rfl (nI_1 _) (by decide) rfl (fun ls hl => ?_)
        refine lv_goto (tgt := 69) hx hb dX1_quotient_96 (by decide) ?_
        exact ih (d - 1) (by omega) (i + 1) E ls H locs _ (by omega) hdv hoe (dv_up hFF (Nat.mod_lt _ (by decide))) (fun j hj => if q : j = i then by rw [q, va_up_self] else by rw [va_up_ne _ _ q]; exact hI j (by omega)) (lv_sub hl [0, 1, 2, 3, 4, 5, 6, 7] rfl) hw
  · exact absurd (by rw [hgb]; decide +kernel) hc4
