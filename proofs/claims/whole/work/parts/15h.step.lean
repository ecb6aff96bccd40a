/-! Whole.stepDown (laid by wip/gen/m_whole8.py) -/
set_option maxHeartbeats 4000000 in
set_option maxRecDepth 100000 in
/-- Whole.stepDown() -/
theorem c3_stepDown (l : Launch) (K : Cxt) (E : Nat → va_E) (z0 : Nat → Wh) (sz h : Nat)  (hh : h ∈ bd_N K) {n : Nat} {g : Int32} {f : Nat → Nat} (hz : z0 h = (n, g, f)) (h24 : n ≤ 24) (hf : q_r f) (ht : bd_tp n f) (hm : q_s f n + 1 < 4294967296 ^ 24) : Met l yX3_stepDown wsX3_stepDown ({ frames := 0, cells := 0, slots := 0, locals := 0 }) (va_Pc [.ref h] (bd_P K E z0 sz)) (va_Qv (fun u => u.1 = E ∧ bd_n (u.2 h) (-((q_s f n + 1 : Nat) : Int)) ∧ ∀ b, b ≠ h → u.2 b = z0 b) (bd_B K) (bd_A K sz)) 0 0 (bd_A K sz) := by
  refine bd_ofW (cc := cX3_stepDown) (maxL := 2) (ret := none) (by decide) rfl (Nat.le_of_ble_eq_true rfl) ?_
  intro p e s m below meth c ls C hr hlk hsz hw hl
  have hx := C.1
  have hb := C.2.1
  have hown := C.2.2.2.1
  have hts := C.2.2.2.2.1
  have i3 : ∀ w ∈ wsX30, w ∈ wsX3_stepDown := by decide +kernel
  have lk17 : Cond.fieldLink RX3 17 "BallDesk$Whole" "size" "I" ∈ wsX3_stepDown := by decide +kernel
  have lk9 : Cond.fieldLink RX3 9 "BallDesk$Whole" "row" "[J" ∈ wsX3_stepDown := by decide +kernel
  have lk13 : Cond.fieldLink RX3 13 "BallDesk$Whole" "sign" "I" ∈ wsX3_stepDown := by decide +kernel
  have lk30 : Cond.constantLong RX3 30 (4294967295) ∈ wsX3_stepDown := by decide +kernel
  have ho : ∀ b, b ≠ h → z0 b = z0 b := fun _ _ => rfl
  have hl : lv_has ls 2 [(0, .ref h)] := hl
  refine lv_iconst (v := nI 0) hx hb dX3_stepDown_0 (by decide) ?_
  refine lv_istore_n (lv' := [(1, .int (nI 0)), (0, .ref h)]) hx hb dX3_stepDown_1 rfl hl (by decide) rfl (fun ls hl => ?_)
  suffices hloop : ∀ (d i : Nat) (z : Nat → Wh) (ls : Array Slot) (H : Heap) (locs : List Loc) (fh : Nat → Nat), i + d = n → z h = (n, g, fh) → q_r fh → (∀ j, j < i → fh j = 0) → (∀ j, i ≤ j → fh j = f j) → (∀ j, j < i → f j = 4294967295) → (∀ b, b ≠ h → z b = z0 b) → lv_has ls 2 [(1, .int (nI i)), (0, .ref h)] → bd_W K E z (bd_A K sz) s.heap H locs → W p l e (headSpec wsX3_stepDown ({ frames := 0, cells := 0, slots := 0, locals := 0 })).room s m [.ref h].toArray below meth c H locs 0 0 (MQ below (va_Qv (fun u => u.1 = E ∧ bd_n (u.2 h) (-((q_s f n + 1 : Nat) : Int)) ∧ ∀ b, b ≠ h → u.2 b = z0 b) (bd_B K) (bd_A K sz)) [.ref h].toArray s 0 0 (bd_A K sz)) (F0 m 2 ls []) from hloop n 0 z0 ls _ _ f (by omega) hz hf (fun j hj => absurd hj (by omega)) (fun _ _ => rfl) (fun j hj => absurd hj (by omega)) ho hl hw
  clear hw hl ls ho hz
  intro d
  induction d using Nat.strongRecOn with
  | ind d ih =>
    intro i z ls H locs fh hid hz hfh h0 hge hF ho hl hw
    refine lv_iload_n hx hb dX3_stepDown_2 rfl (lv_at hl 0 rfl) ?_
    refine lv_aload_n hx hb dX3_stepDown_3 rfl (lv_at hl 1 rfl) ?_
    refine bd_gsz C i3 hw hh hz dX3_stepDown_4 lk17 ?_
    refine bd_ige (h1 := (by omega)) (h2 := (by omega)) (tgt := 36) hx hb dX3_stepDown_7 (by decide) (fun hc7 => ?_) (fun hc7 => ?_)
    · have hi : i = n := by omega
      have hstop : i = n ∨ f i ≠ 4294967295 := Or.inl hi
      have hfull : i = n → n < 24 := fun q => by
        have h1 := q_ff hF
        rcases Nat.lt_or_ge n 24 with r | r
        · exact r
        · have h2 : n = 24 := by omega
          rw [q] at h1
          rw [h1, h2] at hm
          exact absurd hm (Nat.lt_irrefl _)
      refine lv_iload_n hx hb dX3_stepDown_36 rfl (lv_at hl 0 rfl) ?_
      refine lv_aload_n hx hb dX3_stepDown_37 rfl (lv_at hl 1 rfl) ?_
      refine bd_gsz C i3 hw hh hz dX3_stepDown_38 lk17 ?_
      refine bd_ine (h1 := (by omega)) (h2 := (by omega)) (tgt := 73) hx hb dX3_stepDown_41 (by decide) (fun hc41 => ?_) (fun hc41 => ?_)
      · refine lv_iload_n hx hb dX3_stepDown_73 rfl (lv_at hl 0 rfl) ?_
        refine lv_aload_n hx hb dX3_stepDown_74 rfl (lv_at hl 1 rfl) ?_
        refine bd_gsz C i3 hw hh hz dX3_stepDown_75 lk17 ?_
        refine bd_ige (h1 := (by omega)) (h2 := (by omega)) (tgt := 91) hx hb dX3_stepDown_78 (by decide) (fun hc78 => ?_) (fun hc78 => ?_)
        · exfalso
          omega
        · refine lv_aload_n hx hb dX3_stepDown_81 rfl (lv_at hl 1 rfl) ?_
          refine bd_grw C i3 hw hh hz dX3_stepDown_82 lk9 ?_
          refine lv_iload_n hx hb dX3_stepDown_85 rfl (lv_at hl 0 rfl) ?_
          refine lv_dup2_11 hx hb dX3_stepDown_86 rfl rfl ?_
          refine bd_ald C hw hh hz dX3_stepDown_87 (by omega) ?_
          refine lv_lconst (v := lN 1) hx hb dX3_stepDown_88 rfl ?_
          refine bd_ladd (v := (lN (fh i + 1))) hx hb dX3_stepDown_89 (lN_add _ _) ?_
          refine bd_ast C hw hh hz dX3_stepDown_90 (by omega) (fun z H locs hz hfr hw => ?_)
          have hz : z h = (n, g, (va_up fh i (fh i + 1))) := hz
          have ho := bd_tr hfr ho
          refine lv_aload_n hx hb dX3_stepDown_91 rfl (lv_at hl 1 rfl) ?_
          refine lv_iconst (v := -1) hx hb dX3_stepDown_92 (by decide) ?_
          refine bd_psg C i3 hw hh hz dX3_stepDown_93 lk13 (fun z H locs hz hfr hw => ?_)
          have hz : z h = (n, (-1), (va_up fh i (fh i + 1))) := hz
          have ho := bd_tr hfr ho
          have hlt : i < n := hc78
          have hne : f i ≠ 4294967295 := hstop.elim (fun q => absurd q (by omega)) id
          have hfi := hf i (by omega)
          have hin := q_inc (r := va_up fh i (fh i + 1)) hlt hF (fun j hj => by rw [va_up_ne _ _ (by omega)]; exact h0 j hj) (by rw [va_up_self, hge i (Nat.le_refl i)]) (fun j hj => by rw [va_up_ne _ _ (by omega)]; exact hge j (by omega))
          have hn2 : bd_n (n, -1, va_up fh i (fh i + 1)) (-((q_s f n + 1 : Nat) : Int)) := by
            refine ⟨⟨h24, q_r_up hfh (by rw [hge i (Nat.le_refl i)]; omega), fun hp => ?_, Or.inr ⟨by show 0 < n; omega, Or.inr rfl⟩⟩, ?_⟩
            · show va_up fh i (fh i + 1) (n - 1) ≠ 0
              by_cases q : n - 1 = i
              · rw [q, va_up_self]
                omega
              · rw [va_up_ne _ _ q, hge _ (by omega)]
                exact ht (by omega)
            · show (-1 : Int32).toInt * ((q_s _ n : Nat) : Int) = _
              rw [hin, im1]
              omega
          exact bd_vret C hr hlk hw dX3_stepDown_96 ⟨rfl, by rw [show (E, z).2 h = _ from hz]; exact hn2, ho⟩
      · refine lv_aload_n hx hb dX3_stepDown_44 rfl (lv_at hl 1 rfl) ?_
        refine bd_gsz C i3 hw hh hz dX3_stepDown_45 lk17 ?_
        refine lv_bipush (v := nI 24) hx hb dX3_stepDown_48 (by decide) ?_
        refine bd_ige (h1 := (by omega)) (h2 := (by omega)) (tgt := 73) hx hb dX3_stepDown_50 (by decide) (fun hc50 => ?_) (fun hc50 => ?_)
        · exact absurd (hfull hc41) (by omega)
        · refine lv_aload_n hx hb dX3_stepDown_53 rfl (lv_at hl 1 rfl) ?_
          refine bd_grw C i3 hw hh hz dX3_stepDown_54 lk9 ?_
          refine lv_aload_n hx hb dX3_stepDown_57 rfl (lv_at hl 1 rfl) ?_
          refine bd_gsz C i3 hw hh hz dX3_stepDown_58 lk17 ?_
          refine lv_lconst (v := lN 0) hx hb dX3_stepDown_61 rfl ?_
          refine bd_ast C hw hh hz dX3_stepDown_62 (by omega) (fun z H locs hz hfr hw => ?_)
          have hz : z h = (n, g, (va_up fh n 0)) := hz
          have ho := bd_tr hfr ho
          refine lv_aload_n hx hb dX3_stepDown_63 rfl (lv_at hl 1 rfl) ?_
          refine lv_dup hx hb dX3_stepDown_64 rfl ?_
          refine bd_gsz C i3 hw hh hz dX3_stepDown_65 lk17 ?_
          refine lv_iconst (v := nI 1) hx hb dX3_stepDown_68 (by decide) ?_
          refine bd_iadd (v := (nI (n + 1))) hx hb dX3_stepDown_69 (nI_add _ _) ?_
          refine bd_psz C i3 hw hh hz dX3_stepDown_70 lk17 (fun z H locs hz hfr hw => ?_)
          have hz : z h = ((n + 1), g, (va_up fh n 0)) := hz
          have ho := bd_tr hfr ho
          refine lv_iload_n hx hb dX3_stepDown_73 rfl (lv_at hl 0 rfl) ?_
          refine lv_aload_n hx hb dX3_stepDown_74 rfl (lv_at hl 1 rfl) ?_
          refine bd_gsz C i3 hw hh hz dX3_stepDown_75 lk17 ?_
          refine bd_ige (h1 := (by omega)) (h2 := (by omega)) (tgt := 91) hx hb dX3_stepDown_78 (by decide) (fun hc78 => ?_) (fun hc78 => ?_)
          · exfalso
            omega
          · refine lv_aload_n hx hb dX3_stepDown_81 rfl (lv_at hl 1 rfl) ?_
            refine bd_grw C i3 hw hh hz dX3_stepDown_82 lk9 ?_
            refine lv_iload_n hx hb dX3_stepDown_85 rfl (lv_at hl 0 rfl) ?_
            refine lv_dup2_11 hx hb dX3_stepDown_86 rfl rfl ?_
            refine bd_ald C hw hh hz dX3_stepDown_87 (by omega) ?_
            refine lv_lconst (v := lN 1) hx hb dX3_stepDown_88 rfl ?_
            refine bd_ladd (v := (lN ((va_up fh n 0) i + 1))) hx hb dX3_stepDown_89 (lN_add _ _) ?_
            refine bd_ast C hw hh hz dX3_stepDown_90 (by omega) (fun z H locs hz hfr hw => ?_)
            have hz : z h = ((n + 1), g, (va_up (va_up fh n 0) i ((va_up fh n 0) i + 1))) := hz
            have ho := bd_tr hfr ho
            refine lv_aload_n hx hb dX3_stepDown_91 rfl (lv_at hl 1 rfl) ?_
            refine lv_iconst (v := -1) hx hb dX3_stepDown_92 (by decide) ?_
            refine bd_psg C i3 hw hh hz dX3_stepDown_93 lk13 (fun z H locs hz hfr hw => ?_)
            have hz : z h = ((n + 1), (-1), (va_up (va_up fh n 0) i ((va_up fh n 0) i + 1))) := hz
            have ho := bd_tr hfr ho
            have hn24 := hfull hc41
            subst hc41
            have hin := q_inc (n := i + 1) (f := va_up f i 0) (r := va_up (va_up fh i 0) i (va_up fh i 0 i + 1)) (by omega) (fun j hj => by rw [va_up_ne _ _ (by omega)]; exact hF j hj) (fun j hj => by rw [va_up_ne _ _ (by omega), va_up_ne _ _ (by omega)]; exact h0 j hj) (by rw [va_up_self, va_up_self, va_up_self]) (fun j hj => by rw [va_up_ne _ _ (by omega), va_up_ne _ _ (by omega), va_up_ne _ _ (by omega)]; exact hge j (by omega))
            have hq2 : q_s (va_up f i 0) (i + 1) = q_s f i := by
              show q_s (va_up f i 0) i + va_up f i 0 i * _ = _
              rw [va_up_self, Nat.zero_mul, Nat.add_zero]
              exact q_cg (fun j hj => va_up_ne _ _ (by omega))
            rw [hq2] at hin
            have hn2 : bd_n (i + 1, -1, va_up (va_up fh i 0) i (va_up fh i 0 i + 1)) (-((q_s f i + 1 : Nat) : Int)) := by
              refine ⟨⟨by show i + 1 ≤ 24; omega, q_r_up (q_r_up hfh (by decide)) (by rw [va_up_self]; decide), fun _ => ?_, Or.inr ⟨Nat.succ_pos _, Or.inr rfl⟩⟩, ?_⟩
              · show va_up (va_up fh i 0) i (va_up fh i 0 i + 1) (i + 1 - 1) ≠ 0
                rw [Nat.add_sub_cancel, va_up_self]
                omega
              · show (-1 : Int32).toInt * ((q_s _ (i + 1) : Nat) : Int) = _
                rw [hin, im1]
                omega
            exact bd_vret C hr hlk hw dX3_stepDown_96 ⟨rfl, by rw [show (E, z).2 h = _ from hz]; exact hn2, ho⟩
    · refine lv_aload_n hx hb dX3_stepDown_10 rfl (lv_at hl 1 rfl) ?_
      refine bd_grw C i3 hw hh hz dX3_stepDown_11 lk9 ?_
      refine lv_iload_n hx hb dX3_stepDown_14 rfl (lv_at hl 0 rfl) ?_
      refine bd_ald C hw hh hz dX3_stepDown_15 (by omega) ?_
      refine lv_ldc2 (v := lN 4294967295) hx hb hown (hts _ lk30) dX3_stepDown_16 ?_
      refine bd_lne (h1 := (q_r63 hfh (by omega))) (h2 := (by decide)) (tgt := 36) hx hb dX3_stepDown_19 dX3_stepDown_20 (by decide) (fun hc19 => ?_) (fun hc19 => ?_)
      · have hstop : i = n ∨ f i ≠ 4294967295 := Or.inr (by rw [← hge i (Nat.le_refl i)]; exact hc19)
        have hfull : i = n → n < 24 := fun q => by
          have h1 := q_ff hF
          rcases Nat.lt_or_ge n 24 with r | r
          · exact r
          · have h2 : n = 24 := by omega
            rw [q] at h1
            rw [h1, h2] at hm
            exact absurd hm (Nat.lt_irrefl _)
        refine lv_iload_n hx hb dX3_stepDown_36 rfl (lv_at hl 0 rfl) ?_
        refine lv_aload_n hx hb dX3_stepDown_37 rfl (lv_at hl 1 rfl) ?_
        refine bd_gsz C i3 hw hh hz dX3_stepDown_38 lk17 ?_
        refine bd_ine (h1 := (by omega)) (h2 := (by omega)) (tgt := 73) hx hb dX3_stepDown_41 (by decide) (fun hc41 => ?_) (fun hc41 => ?_)
        · refine lv_iload_n hx hb dX3_stepDown_73 rfl (lv_at hl 0 rfl) ?_
          refine lv_aload_n hx hb dX3_stepDown_74 rfl (lv_at hl 1 rfl) ?_
          refine bd_gsz C i3 hw hh hz dX3_stepDown_75 lk17 ?_
          refine bd_ige (h1 := (by omega)) (h2 := (by omega)) (tgt := 91) hx hb dX3_stepDown_78 (by decide) (fun hc78 => ?_) (fun hc78 => ?_)
          · exfalso
            omega
          · refine lv_aload_n hx hb dX3_stepDown_81 rfl (lv_at hl 1 rfl) ?_
            refine bd_grw C i3 hw hh hz dX3_stepDown_82 lk9 ?_
            refine lv_iload_n hx hb dX3_stepDown_85 rfl (lv_at hl 0 rfl) ?_
            refine lv_dup2_11 hx hb dX3_stepDown_86 rfl rfl ?_
            refine bd_ald C hw hh hz dX3_stepDown_87 (by omega) ?_
            refine lv_lconst (v := lN 1) hx hb dX3_stepDown_88 rfl ?_
            refine bd_ladd (v := (lN (fh i + 1))) hx hb dX3_stepDown_89 (lN_add _ _) ?_
            refine bd_ast C hw hh hz dX3_stepDown_90 (by omega) (fun z H locs hz hfr hw => ?_)
            have hz : z h = (n, g, (va_up fh i (fh i + 1))) := hz
            have ho := bd_tr hfr ho
            refine lv_aload_n hx hb dX3_stepDown_91 rfl (lv_at hl 1 rfl) ?_
            refine lv_iconst (v := -1) hx hb dX3_stepDown_92 (by decide) ?_
            refine bd_psg C i3 hw hh hz dX3_stepDown_93 lk13 (fun z H locs hz hfr hw => ?_)
            have hz : z h = (n, (-1), (va_up fh i (fh i + 1))) := hz
            have ho := bd_tr hfr ho
            have hlt : i < n := hc78
            have hne : f i ≠ 4294967295 := hstop.elim (fun q => absurd q (by omega)) id
            have hfi := hf i (by omega)
            have hin := q_inc (r := va_up fh i (fh i + 1)) hlt hF (fun j hj => by rw [va_up_ne _ _ (by omega)]; exact h0 j hj) (by rw [va_up_self, hge i (Nat.le_refl i)]) (fun j hj => by rw [va_up_ne _ _ (by omega)]; exact hge j (by omega))
            have hn2 : bd_n (n, -1, va_up fh i (fh i + 1)) (-((q_s f n + 1 : Nat) : Int)) := by
              refine ⟨⟨h24, q_r_up hfh (by rw [hge i (Nat.le_refl i)]; omega), fun hp => ?_, Or.inr ⟨by show 0 < n; omega, Or.inr rfl⟩⟩, ?_⟩
              · show va_up fh i (fh i + 1) (n - 1) ≠ 0
                by_cases q : n - 1 = i
                · rw [q, va_up_self]
                  omega
                · rw [va_up_ne _ _ q, hge _ (by omega)]
                  exact ht (by omega)
              · show (-1 : Int32).toInt * ((q_s _ n : Nat) : Int) = _
                rw [hin, im1]
                omega
            exact bd_vret C hr hlk hw dX3_stepDown_96 ⟨rfl, by rw [show (E, z).2 h = _ from hz]; exact hn2, ho⟩
        · refine lv_aload_n hx hb dX3_stepDown_44 rfl (lv_at hl 1 rfl) ?_
          refine bd_gsz C i3 hw hh hz dX3_stepDown_45 lk17 ?_
          refine lv_bipush (v := nI 24) hx hb dX3_stepDown_48 (by decide) ?_
          refine bd_ige (h1 := (by omega)) (h2 := (by omega)) (tgt := 73) hx hb dX3_stepDown_50 (by decide) (fun hc50 => ?_) (fun hc50 => ?_)
          · exact absurd (hfull hc41) (by omega)
          · refine lv_aload_n hx hb dX3_stepDown_53 rfl (lv_at hl 1 rfl) ?_
            refine bd_grw C i3 hw hh hz dX3_stepDown_54 lk9 ?_
            refine lv_aload_n hx hb dX3_stepDown_57 rfl (lv_at hl 1 rfl) ?_
            refine bd_gsz C i3 hw hh hz dX3_stepDown_58 lk17 ?_
            refine lv_lconst (v := lN 0) hx hb dX3_stepDown_61 rfl ?_
            refine bd_ast C hw hh hz dX3_stepDown_62 (by omega) (fun z H locs hz hfr hw => ?_)
            have hz : z h = (n, g, (va_up fh n 0)) := hz
            have ho := bd_tr hfr ho
            refine lv_aload_n hx hb dX3_stepDown_63 rfl (lv_at hl 1 rfl) ?_
            refine lv_dup hx hb dX3_stepDown_64 rfl ?_
            refine bd_gsz C i3 hw hh hz dX3_stepDown_65 lk17 ?_
            refine lv_iconst (v := nI 1) hx hb dX3_stepDown_68 (by decide) ?_
            refine bd_iadd (v := (nI (n + 1))) hx hb dX3_stepDown_69 (nI_add _ _) ?_
            refine bd_psz C i3 hw hh hz dX3_stepDown_70 lk17 (fun z H locs hz hfr hw => ?_)
            have hz : z h = ((n + 1), g, (va_up fh n 0)) := hz
            have ho := bd_tr hfr ho
            refine lv_iload_n hx hb dX3_stepDown_73 rfl (lv_at hl 0 rfl) ?_
            refine lv_aload_n hx hb dX3_stepDown_74 rfl (lv_at hl 1 rfl) ?_
            refine bd_gsz C i3 hw hh hz dX3_stepDown_75 lk17 ?_
            refine bd_ige (h1 := (by omega)) (h2 := (by omega)) (tgt := 91) hx hb dX3_stepDown_78 (by decide) (fun hc78 => ?_) (fun hc78 => ?_)
            · exfalso
              omega
            · refine lv_aload_n hx hb dX3_stepDown_81 rfl (lv_at hl 1 rfl) ?_
              refine bd_grw C i3 hw hh hz dX3_stepDown_82 lk9 ?_
              refine lv_iload_n hx hb dX3_stepDown_85 rfl (lv_at hl 0 rfl) ?_
              refine lv_dup2_11 hx hb dX3_stepDown_86 rfl rfl ?_
              refine bd_ald C hw hh hz dX3_stepDown_87 (by omega) ?_
              refine lv_lconst (v := lN 1) hx hb dX3_stepDown_88 rfl ?_
              refine bd_ladd (v := (lN ((va_up fh n 0) i + 1))) hx hb dX3_stepDown_89 (lN_add _ _) ?_
              refine bd_ast C hw hh hz dX3_stepDown_90 (by omega) (fun z H locs hz hfr hw => ?_)
              have hz : z h = ((n + 1), g, (va_up (va_up fh n 0) i ((va_up fh n 0) i + 1))) := hz
              have ho := bd_tr hfr ho
              refine lv_aload_n hx hb dX3_stepDown_91 rfl (lv_at hl 1 rfl) ?_
              refine lv_iconst (v := -1) hx hb dX3_stepDown_92 (by decide) ?_
              refine bd_psg C i3 hw hh hz dX3_stepDown_93 lk13 (fun z H locs hz hfr hw => ?_)
              have hz : z h = ((n + 1), (-1), (va_up (va_up fh n 0) i ((va_up fh n 0) i + 1))) := hz
              have ho := bd_tr hfr ho
              have hn24 := hfull hc41
              subst hc41
              have hin := q_inc (n := i + 1) (f := va_up f i 0) (r := va_up (va_up fh i 0) i (va_up fh i 0 i + 1)) (by omega) (fun j hj => by rw [va_up_ne _ _ (by omega)]; exact hF j hj) (fun j hj => by rw [va_up_ne _ _ (by omega), va_up_ne _ _ (by omega)]; exact h0 j hj) (by rw [va_up_self, va_up_self, va_up_self]) (fun j hj => by rw [va_up_ne _ _ (by omega), va_up_ne _ _ (by omega), va_up_ne _ _ (by omega)]; exact hge j (by omega))
              have hq2 : q_s (va_up f i 0) (i + 1) = q_s f i := by
                show q_s (va_up f i 0) i + va_up f i 0 i * _ = _
                rw [va_up_self, Nat.zero_mul, Nat.add_zero]
                exact q_cg (fun j hj => va_up_ne _ _ (by omega))
              rw [hq2] at hin
              have hn2 : bd_n (i + 1, -1, va_up (va_up fh i 0) i (va_up fh i 0 i + 1)) (-((q_s f i + 1 : Nat) : Int)) := by
                refine ⟨⟨by show i + 1 ≤ 24; omega, q_r_up (q_r_up hfh (by decide)) (by rw [va_up_self]; decide), fun _ => ?_, Or.inr ⟨Nat.succ_pos _, Or.inr rfl⟩⟩, ?_⟩
                · show va_up (va_up fh i 0) i (va_up fh i 0 i + 1) (i + 1 - 1) ≠ 0
                  rw [Nat.add_sub_cancel, va_up_self]
                  omega
                · show (-1 : Int32).toInt * ((q_s _ (i + 1) : Nat) : Int) = _
                  rw [hin, im1]
                  omega
              exact bd_vret C hr hlk hw dX3_stepDown_96 ⟨rfl, by rw [show (E, z).2 h = _ from hz]; exact hn2, ho⟩
      · refine lv_aload_n hx hb dX3_stepDown_23 rfl (lv_at hl 1 rfl) ?_
        refine bd_grw C i3 hw hh hz dX3_stepDown_24 lk9 ?_
        refine lv_iload_n hx hb dX3_stepDown_27 rfl (lv_at hl 0 rfl) ?_
        refine lv_lconst (v := lN 0) hx hb dX3_stepDown_28 rfl ?_
        refine bd_ast C hw hh hz dX3_stepDown_29 (by omega) (fun z H locs hz hfr hw => ?_)
        have hz : z h = (n, g, (va_up fh i 0)) := hz
        have ho := bd_tr hfr ho
        refine lv_iinc (v := (nI (i + 1))) (lv' := [(1, .int (nI (i + 1))), (0, .ref h)]) hx hb dX3_stepDown_30 hl (k := 0) rfl (nI_1 _) (by decide) rfl (fun ls hl => ?_)
        refine lv_goto (tgt := 2) hx hb dX3_stepDown_33 (by decide) ?_
        exact ih (d - 1) (by omega) (i + 1) z ls H locs _ (by omega) hz (q_r_up hfh (by decide)) (fun j hj => if q : j = i then by rw [q, va_up_self] else by rw [va_up_ne _ _ q]; exact h0 j (by omega)) (fun j hj => by rw [va_up_ne _ _ (by omega)]; exact hge j (by omega)) (fun j hj => if q : j = i then by rw [q, ← hge i (Nat.le_refl i)]; exact hc19 else hF j (by omega)) ho (lv_sub hl [0, 1] rfl) hw
