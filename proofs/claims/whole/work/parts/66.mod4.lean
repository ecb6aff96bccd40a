/-! the model: product, timesSmall (laid by wip/gen/m_mod4.py) -/
theorem sg_mul (x y : Int) : q_sg x * q_sg y = q_sg (x * y) := by
  rcases sg3 x with ⟨a, b⟩ | ⟨a, b⟩ | ⟨a, b⟩ <;> rcases sg3 y with ⟨a2, b2⟩ | ⟨a2, b2⟩ | ⟨a2, b2⟩ <;> rw [b, b2]
  · rw [show q_sg (x * y) = 1 from (by rcases sg3 (x * y) with ⟨c, d⟩ | ⟨c, d⟩ | ⟨c, d⟩ <;> first | exact d | (exfalso; have := Int.mul_pos_of_neg_of_neg a a2; omega))]; decide
  · rw [a2, Int.mul_zero]; rfl
  · rw [show q_sg (x * y) = -1 from (by rcases sg3 (x * y) with ⟨c, d⟩ | ⟨c, d⟩ | ⟨c, d⟩ <;> first | exact d | (exfalso; have := Int.mul_neg_of_neg_of_pos a a2; omega))]; decide
  · rw [a, Int.zero_mul]; rfl
  · rw [a, Int.zero_mul]; rfl
  · rw [a, Int.zero_mul]; rfl
  · rw [show q_sg (x * y) = -1 from (by rcases sg3 (x * y) with ⟨c, d⟩ | ⟨c, d⟩ | ⟨c, d⟩ <;> first | exact d | (exfalso; have := Int.mul_neg_of_pos_of_neg a a2; omega))]; decide
  · rw [a2, Int.mul_zero]; rfl
  · rw [show q_sg (x * y) = 1 from (by rcases sg3 (x * y) with ⟨c, d⟩ | ⟨c, d⟩ | ⟨c, d⟩ <;> first | exact d | (exfalso; have := Int.mul_pos a a2; omega))]; decide
theorem l_sh24 {n : Nat} (h : n < 2 ^ 63) : lN n >>> ((nI 24).toInt64 &&& 63) = lN (n / 16777216) := by
  apply Int64.toInt_inj.mp
  have e1 : ∀ k, k < 2 ^ 63 → (lN k).toInt = (k : Int) := fun k hk => Int64.toInt_ofInt_of_le (n := (k : Int)) (by omega) (by omega)
  rw [e1 _ (by omega)]
  show (lN n >>> ((nI 24).toInt64 &&& 63)).toBitVec.toInt = _
  rw [Int64.toBitVec_shiftRight, show ((nI 24).toInt64 &&& 63).toBitVec.smod 64 = BitVec.ofNat 64 24 by decide, BitVec.sshiftRight_eq', BitVec.toInt_sshiftRight, Int.shiftRight_eq_div_pow]
  show (lN n).toInt / _ = _
  rw [e1 n h]
  exact (Int.natCast_ediv n 16777216).symm
theorem h_ua {f : Nat → Nat} {q x : Nat} : ∀ {n : Nat}, q < n → h_s (va_up f q (f q + x)) n = h_s f n + x * 16777216 ^ q := by
  intro n
  induction n with
  | zero => intro h; omega
  | succ n ih =>
    intro h
    show h_s (va_up f q (f q + x)) n + va_up f q (f q + x) n * 16777216 ^ n = h_s f n + f n * 16777216 ^ n + x * 16777216 ^ q
    rcases Nat.lt_or_ge q n with r | r
    · rw [ih r, va_up_ne _ _ (by omega)]
      omega
    · have : q = n := by omega
      subst this
      have e1 : h_s (va_up f q (f q + x)) q = h_s f q := h_cg (fun k hk => va_up_ne f _ (by omega))
      rw [va_up_self, e1, Nat.add_mul]
      omega
theorem pr_0 {fb : Nat → Nat} {x y z : Nat} : z + x * h_s fb 0 * y = z := by
  show z + x * 0 * y = z
  rw [Nat.mul_zero, Nat.zero_mul, Nat.add_zero]
theorem pr_st {fa fb : Nat → Nat} {i j N : Nat} : h_s fa i * N + fa i * h_s fb j * 16777216 ^ i + fa i * fb j * 16777216 ^ (i + j) = h_s fa i * N + fa i * h_s fb (j + 1) * 16777216 ^ i := by
  show _ = _ + fa i * (h_s fb j + fb j * 16777216 ^ j) * _
  rw [Nat.mul_add, Nat.add_mul, Nat.pow_add, ← Nat.mul_assoc (fa i) (fb j), Nat.mul_assoc (fa i * fb j) (16777216 ^ j), Nat.mul_comm (16777216 ^ j), Nat.add_assoc]
theorem pr_row {fa fb : Nat → Nat} {i : Nat} : h_s fa i * h_s fb 34 + fa i * h_s fb 34 * 16777216 ^ i = h_s fa (i + 1) * h_s fb 34 := by
  show _ = (h_s fa i + fa i * 16777216 ^ i) * _
  rw [Nat.add_mul, Nat.mul_assoc (fa i), Nat.mul_comm (h_s fb 34), ← Nat.mul_assoc]
theorem pr_z {fa fb : Nat → Nat} {i j : Nat} (h : fa i = 0) : h_s fa i * h_s fb 34 + 0 * h_s fb j * 16777216 ^ i = h_s fa (i + 1) * h_s fb 34 := by
  show _ = (h_s fa i + fa i * 16777216 ^ i) * _
  rw [h, Nat.zero_mul, Nat.zero_mul, Nat.add_zero, Nat.add_zero]
theorem pr_b {x y : Nat} (hx : x < 16777216) (hy : y < 16777216) : x * y ≤ 281474976710656 := Nat.mul_le_mul (Nat.le_of_lt hx) (Nat.le_of_lt hy)
theorem pr_b1 {S : Nat → Nat} {i j x : Nat} (h1 : ∀ k, k < 70 → S k ≤ (i + 1) * 281474976710656) (h2 : ∀ k, i + j ≤ k → k < 70 → S k ≤ i * 281474976710656) (hx : x ≤ 281474976710656) (k : Nat) (hk : k < 70) (hij : i + j < 70) : va_up S (i + j) (S (i + j) + x) k ≤ (i + 1) * 281474976710656 := by
  by_cases q : k = i + j
  · rw [q, va_up_self]
    have := h2 (i + j) (Nat.le_refl _) hij
    omega
  · rw [va_up_ne _ _ q]
    exact h1 k hk
theorem pr_cy {f1 S : Nat → Nat} {i cy : Nat} (h : h_s f1 i + cy * 16777216 ^ i = h_s S i) : h_s (va_up f1 i ((cy + S i) % 16777216)) (i + 1) + (cy + S i) / 16777216 * 16777216 ^ (i + 1) = h_s S (i + 1) := by
  rw [h_up]
  show _ = h_s S i + S i * 16777216 ^ i
  rw [← h, Nat.pow_succ]
  have e := Nat.div_add_mod (cy + S i) 16777216
  have e2 : (cy + S i) / 16777216 * (16777216 ^ i * 16777216) + (cy + S i) % 16777216 * 16777216 ^ i = (cy + S i) * 16777216 ^ i := by
    rw [Nat.mul_comm (16777216 ^ i), ← Nat.mul_assoc, ← Nat.add_mul, Nat.mul_comm _ 16777216, e]
  rw [Nat.add_mul] at e2
  omega
theorem h_split {f : Nat → Nat} (n : Nat) : ∀ m, h_s f (n + m) = h_s f n + h_s (fun j => f (n + j)) m * 16777216 ^ n := by
  intro m
  induction m with
  | zero => show h_s f n = h_s f n + 0 * _; omega
  | succ m ih =>
    show h_s f (n + m) + f (n + m) * 16777216 ^ (n + m) = h_s f n + (h_s (fun j => f (n + j)) m + f (n + m) * 16777216 ^ m) * 16777216 ^ n
    rw [ih, Nat.add_mul, Nat.pow_add, Nat.mul_assoc (f (n + m)), Nat.mul_comm (16777216 ^ m), Nat.add_assoc]
theorem pr_end {f S : Nat → Nat} {cy X : Nat} (hf : ∀ j, j < 34 → f j < 16777216) (hX : X < 16777216 ^ 34) (hs : h_s S 70 = X) (h : h_s f 34 + cy * 16777216 ^ 34 = h_s S 34) : h_s f 34 = X := by
  have e := h_split (f := S) 34 36
  rw [hs] at e
  have h0 : h_s (fun j => S (34 + j)) 36 = 0 := by
    rcases Nat.eq_zero_or_pos (h_s (fun j => S (34 + j)) 36) with q | q
    · exact q
    · have := Nat.mul_le_mul_right (16777216 ^ 34) q
      omega
  have h1 : cy = 0 := by
    rcases Nat.eq_zero_or_pos cy with q | q
    · exact q
    · have := Nat.mul_le_mul_right (16777216 ^ 34) q
      omega
  rw [h0, Nat.zero_mul] at e
  rw [h1, Nat.zero_mul] at h
  omega
set_option maxHeartbeats 4000000 in
set_option maxRecDepth 100000 in
/-- product(t, a, b) -/
theorem v5_product (l : Launch) (K : Cxt) (E0 : Nat → va_E) (z0 : Nat → Wh) (sz : Nat) {mo : Nat → Nat} {th : Int32} {P : Nat} {rg0 : Nat → Int} (hv : md_v K E0 mo th P rg0) (t ra rb : Nat) (ht60 : t < 60) (ha60 : ra < 60) (hb60 : rb < 60) (hfit : (rg0 ra * rg0 rb).natAbs < 16777216 ^ 34) : Met l yX5_product wsX5_product ({ frames := 1, cells := 0, slots := 0, locals := 30 }) (va_Pc [.ref (mo 0), .int (nI t), .int (nI ra), .int (nI rb)] (bd_P K E0 z0 sz)) (va_Qv (mv_q K mo th P rg0 t (rg0 ra * rg0 rb)) (bd_B K) (bd_A K sz)) 0 0 (bd_A K sz) := by
  refine bd_ofW (cc := cX5_product) (maxL := 8) (ret := none) (by decide) rfl (Nat.le_of_ble_eq_true rfl) ?_
  intro p e s m below meth c ls C hr hlk hsz hw hl
  have hx := C.1
  have hb := C.2.1
  have hown := C.2.2.2.1
  have hts := C.2.2.2.2.1
  have i5 : ∀ w ∈ wsX50, w ∈ wsX5_product := by decide +kernel
  have lk13 : Cond.fieldLink RX5 13 "BallDeskModel" "signs" "[I" ∈ wsX5_product := by decide +kernel
  have lk16 : Cond.fieldLink RX5 16 "BallDeskModel" "sums" "[J" ∈ wsX5_product := by decide +kernel
  have lk7 : Cond.fieldLink RX5 7 "BallDeskModel" "limbs" "[I" ∈ wsX5_product := by decide +kernel
  have lk55 : Cond.constantLong RX5 55 (16777215) ∈ wsX5_product := by decide +kernel
  have hl : lv_has ls 8 [(0, .ref (mo 0)), (1, .int (nI t)), (2, .int (nI ra)), (3, .int (nI rb))] := hl
  obtain ⟨Fo, Go, So, Ro, hm, hrg⟩ := hv
  obtain ⟨hP1, hP2⟩ := md_P hm
  obtain ⟨hFa, hva, hga⟩ := hrg ra ha60
  obtain ⟨hFb, hvb, hgb⟩ := hrg rb hb60
  refine lv_iconst (v := nI 0) hx hb dX5_product_0 (by decide) ?_
  refine lv_istore (lv' := [(4, .int (nI 0)), (0, .ref (mo 0)), (1, .int (nI t)), (2, .int (nI ra)), (3, .int (nI rb))]) hx hb dX5_product_1 hl (by decide) rfl (fun ls hl => ?_)
  suffices hloop : ∀ (d9 i : Nat) (S1 : Nat → Nat) (E : Nat → va_E) (ls : Array Slot) (H : Heap) (locs : List Loc), i + d9 = 70 → md_at K E mo th P Fo Go S1 Ro → (∀ j, j < i → S1 j = 0) → lv_has ls 8 [(4, .int (nI i)), (0, .ref (mo 0)), (1, .int (nI t)), (2, .int (nI ra)), (3, .int (nI rb))] → bd_W K E z0 (bd_A K sz) s.heap H locs → W p l e (headSpec wsX5_product ({ frames := 1, cells := 0, slots := 0, locals := 30 })).room s m [.ref (mo 0), .int (nI t), .int (nI ra), .int (nI rb)].toArray below meth c H locs 0 0 (MQ below (va_Qv (mv_q K mo th P rg0 t (rg0 ra * rg0 rb)) (bd_B K) (bd_A K sz)) [.ref (mo 0), .int (nI t), .int (nI ra), .int (nI rb)].toArray s 0 0 (bd_A K sz)) (F0 m 3 ls []) from hloop 70 0 So E0 ls _ _ (by omega) hm (fun j hj => absurd hj (by omega)) (lv_sub hl [0, 1, 2, 3, 4] rfl) hw
  clear hw hl ls hm 
  intro d9
  induction d9 using Nat.strongRecOn with
  | ind d9 ih =>
    intro i S1 E ls H locs hjd9 hm hf hl hw
    refine lv_iload hx hb dX5_product_3 (lv_at hl 0 rfl) ?_
    refine lv_bipush (v := nI 70) hx hb dX5_product_5 (by decide) ?_
    refine bd_ige (h1 := (by omega)) (h2 := (by omega)) (tgt := 24) hx hb dX5_product_7 (by decide) (fun hc7 => ?_) (fun hc7 => ?_)
    · refine lv_iconst (v := nI 0) hx hb dX5_product_24 (by decide) ?_
      refine lv_istore (lv' := [(4, .int (nI 0)), (0, .ref (mo 0)), (1, .int (nI t)), (2, .int (nI ra)), (3, .int (nI rb))]) hx hb dX5_product_25 hl (by decide) rfl (fun ls hl => ?_)
      have h0 : h_s S1 70 = h_s (Fo ra) 0 * h_s (Fo rb) 34 := by rw [h_z.mpr (fun j hj => hf j (by omega))]; show 0 = 0 * _; rw [Nat.zero_mul]
      suffices hloop : ∀ (d9 i : Nat) (S1 : Nat → Nat) (E : Nat → va_E) (ls : Array Slot) (H : Heap) (locs : List Loc), i + d9 = 34 → md_at K E mo th P Fo Go S1 Ro → (h_s S1 70 = h_s (Fo ra) i * h_s (Fo rb) 34) → (∀ j, j < 70 → S1 j ≤ i * 281474976710656) → lv_has ls 8 [(4, .int (nI i)), (0, .ref (mo 0)), (1, .int (nI t)), (2, .int (nI ra)), (3, .int (nI rb))] → bd_W K E z0 (bd_A K sz) s.heap H locs → W p l e (headSpec wsX5_product ({ frames := 1, cells := 0, slots := 0, locals := 30 })).room s m [.ref (mo 0), .int (nI t), .int (nI ra), .int (nI rb)].toArray below meth c H locs 0 0 (MQ below (va_Qv (mv_q K mo th P rg0 t (rg0 ra * rg0 rb)) (bd_B K) (bd_A K sz)) [.ref (mo 0), .int (nI t), .int (nI ra), .int (nI rb)].toArray s 0 0 (bd_A K sz)) (F0 m 27 ls []) from hloop 34 0 S1 E ls _ _ (by omega) hm h0 (fun j hj => by rw [hf j (by omega)]; exact Nat.zero_le _) (lv_sub hl [0, 1, 2, 3, 4] rfl) hw
      clear hw hl ls hm ih hf h0
      intro d9
      induction d9 using Nat.strongRecOn with
      | ind d9 ih2 =>
        intro i S1 E ls H locs hjd9 hm hs hu hl hw
        refine lv_iload hx hb dX5_product_27 (lv_at hl 0 rfl) ?_
        refine lv_bipush (v := nI 34) hx hb dX5_product_29 (by decide) ?_
        refine bd_ige (h1 := (by omega)) (h2 := (by omega)) (tgt := 96) hx hb dX5_product_31 (by decide) (fun hc31 => ?_) (fun hc31 => ?_)
        · refine lv_aload_n hx hb dX5_product_96 rfl (lv_at hl 1 rfl) ?_
          refine md_g C i5 hw hm 4 (by decide) (v := .ref (mo 2)) rfl dX5_product_97 lk13 ?_
          refine lv_iload_n hx hb dX5_product_100 rfl (lv_at hl 3 rfl) ?_
          refine md_ld2 C hw hm dX5_product_101 (by omega) ?_
          refine lv_aload_n hx hb dX5_product_102 rfl (lv_at hl 1 rfl) ?_
          refine md_g C i5 hw hm 4 (by decide) (v := .ref (mo 2)) rfl dX5_product_103 lk13 ?_
          refine lv_iload_n hx hb dX5_product_106 rfl (lv_at hl 4 rfl) ?_
          refine md_ld2 C hw hm dX5_product_107 (by omega) ?_
          refine bd_imul (v := (q_sg (rg0 ra * rg0 rb))) hx hb dX5_product_108 (by rw [hga, hgb]; exact sg_mul _ _) ?_
          refine lv_istore (lv' := [(4, .int (q_sg (rg0 ra * rg0 rb))), (0, .ref (mo 0)), (1, .int (nI t)), (2, .int (nI ra)), (3, .int (nI rb))]) hx hb dX5_product_109 hl (by decide) rfl (fun ls hl => ?_)
          refine lv_lconst (v := lN 0) hx hb dX5_product_111 rfl ?_
          refine lv_lstore (lv' := [(5, .long (lN 0)), (4, .int (q_sg (rg0 ra * rg0 rb))), (0, .ref (mo 0)), (1, .int (nI t)), (2, .int (nI ra)), (3, .int (nI rb))]) hx hb dX5_product_112 hl (by decide) rfl (fun ls hl => ?_)
          refine lv_iconst (v := nI 0) hx hb dX5_product_114 (by decide) ?_
          refine lv_istore (lv' := [(7, .int (nI 0)), (5, .long (lN 0)), (4, .int (q_sg (rg0 ra * rg0 rb))), (0, .ref (mo 0)), (1, .int (nI t)), (2, .int (nI ra)), (3, .int (nI rb))]) hx hb dX5_product_115 hl (by decide) rfl (fun ls hl => ?_)
          have hi34 : i = 34 := by omega
          rw [hi34] at hu
          rw [hi34, hva, hvb, ← Int.natAbs_mul] at hs
          clear hi34
          suffices hloop : ∀ (d9 i : Nat) (f1 : Nat → Nat) (cy : Nat) (E : Nat → va_E) (ls : Array Slot) (H : Heap) (locs : List Loc), i + d9 = 34 → md_at K E mo th P (va_up Fo t f1) Go S1 Ro → (∀ j, j < i → f1 j < 16777216) → (cy ≤ 4294967296) → (h_s f1 i + cy * 16777216 ^ i = h_s S1 i) → lv_has ls 8 [(7, .int (nI i)), (5, .long (lN cy)), (4, .int (q_sg (rg0 ra * rg0 rb))), (0, .ref (mo 0)), (1, .int (nI t))] → bd_W K E z0 (bd_A K sz) s.heap H locs → W p l e (headSpec wsX5_product ({ frames := 1, cells := 0, slots := 0, locals := 30 })).room s m [.ref (mo 0), .int (nI t), .int (nI ra), .int (nI rb)].toArray below meth c H locs 0 0 (MQ below (va_Qv (mv_q K mo th P rg0 t (rg0 ra * rg0 rb)) (bd_B K) (bd_A K sz)) [.ref (mo 0), .int (nI t), .int (nI ra), .int (nI rb)].toArray s 0 0 (bd_A K sz)) (F0 m 117 ls []) from hloop 34 0 (Fo t) 0 E ls _ _ (by omega) (by rw [va_upi]; exact hm) (fun j hj => absurd hj (by omega)) (by omega) (by simp [h_s]) (lv_sub hl [0, 1, 2, 3, 4] rfl) hw
          clear hw hl ls hm ih2
          intro d9
          induction d9 using Nat.strongRecOn with
          | ind d9 ih3 =>
            intro i f1 cy E ls H locs hjd9 hm hfb hcy hsum hl hw
            refine lv_iload hx hb dX5_product_117 (lv_at hl 0 rfl) ?_
            refine lv_bipush (v := nI 34) hx hb dX5_product_119 (by decide) ?_
            refine bd_ige (h1 := (by omega)) (h2 := (by omega)) (tgt := 168) hx hb dX5_product_121 (by decide) (fun hc121 => ?_) (fun hc121 => ?_)
            · have hi34 : i = 34 := by omega
              rw [hi34] at hfb hsum
              have hs1 := pr_end (f := f1) hfb hfit hs hsum
              refine lv_aload_n hx hb dX5_product_168 rfl (lv_at hl 3 rfl) ?_
              refine lv_iload_n hx hb dX5_product_169 rfl (lv_at hl 4 rfl) ?_
              refine lv_iload hx hb dX5_product_170 (lv_at hl 2 rfl) ?_
              refine bd_cv (As := [.int (nI t), .int (q_sg (rg0 ra * rg0 rb))]) (rest := []) C (m5_settle _ _ _ _ _ hm t (q_sg (rg0 ra * rg0 rb)) (by omega) (by rw [va_up_self]; exact hfb)) (cwV 2 hts gX5_product_X5_settle rfl rfl rfl (by decide +kernel) ⟨Nat.le_of_ble_eq_true rfl, Nat.le_of_ble_eq_true rfl⟩) hsz hw (md_recv C hw hm) dX5_product_172 rfl hl.1 rfl (Nat.le_of_ble_eq_true rfl) ⟨Nat.le_refl _, Nat.le_refl _⟩ (fun E z H locs hp hw => ?_)
              have hm := hp
              rw [va_up_self] at hm
              exact bd_vret C hr hlk hw dX5_product_175 (mv_end hm hrg hfb hs1 (sg_if hs1 (fun _ => rfl)))
            · have hSi := hu i (by omega)
              refine lv_lload hx hb dX5_product_124 (lv_at hl 1 rfl) ?_
              refine lv_aload_n hx hb dX5_product_126 rfl (lv_at hl 3 rfl) ?_
              refine md_g C i5 hw hm 5 (by decide) (v := .ref (mo 3)) rfl dX5_product_127 lk16 ?_
              refine lv_iload hx hb dX5_product_130 (lv_at hl 0 rfl) ?_
              refine md_ld3 C hw hm dX5_product_132 (by omega) ?_
              refine bd_ladd (v := (lN (cy + S1 i))) hx hb dX5_product_133 (lN_add _ _) ?_
              refine lv_lstore (lv' := [(5, .long (lN (cy + S1 i))), (7, .int (nI i)), (4, .int (q_sg (rg0 ra * rg0 rb))), (0, .ref (mo 0)), (1, .int (nI t))]) hx hb dX5_product_134 hl (by decide) rfl (fun ls hl => ?_)
              refine lv_aload_n hx hb dX5_product_136 rfl (lv_at hl 3 rfl) ?_
              refine md_g C i5 hw hm 3 (by decide) (v := .ref (mo 1)) rfl dX5_product_137 lk7 ?_
              refine lv_bipush (v := nI 34) hx hb dX5_product_140 (by decide) ?_
              refine lv_iload_n hx hb dX5_product_142 rfl (lv_at hl 4 rfl) ?_
              refine bd_imul (v := nI (34 * t)) hx hb dX5_product_143 (nI_mul _ _) ?_
              refine lv_iload hx hb dX5_product_144 (lv_at hl 1 rfl) ?_
              refine bd_iadd (v := nI (34 * t + i)) hx hb dX5_product_146 (nI_add _ _) ?_
              refine lv_lload hx hb dX5_product_147 (lv_at hl 0 rfl) ?_
              refine lv_ldc2 (v := lN 16777215) hx hb hown (hts _ lk55) dX5_product_149 ?_
              refine bd_land (v := (lN ((cy + S1 i) % 16777216))) hx hb dX5_product_152 (l_m24 (by omega)) ?_
              refine bd_l2i (v := (nI ((cy + S1 i) % 16777216))) hx hb dX5_product_153 (l_2i _) ?_
              refine md_st1u C hw (r := t) (k := i) (x := ((cy + S1 i) % 16777216)) hm dX5_product_154 (by omega) (by omega) (fun E H locs hm hw => ?_)
              refine lv_lload hx hb dX5_product_155 (lv_at hl 0 rfl) ?_
              refine lv_bipush (v := nI 24) hx hb dX5_product_157 (by decide) ?_
              refine bd_lshr (v := (lN ((cy + S1 i) / 16777216))) hx hb dX5_product_159 (l_sh24 (by omega)) ?_
              refine lv_lstore (lv' := [(5, .long (lN ((cy + S1 i) / 16777216))), (7, .int (nI i)), (4, .int (q_sg (rg0 ra * rg0 rb))), (0, .ref (mo 0)), (1, .int (nI t))]) hx hb dX5_product_160 hl (by decide) rfl (fun ls hl => ?_)
              refine lv_iinc (v := (nI (i + 1))) (lv' := [(7, .int (nI (i + 1))), (5, .long (lN ((cy + S1 i) / 16777216))), (4, .int (q_sg (rg0 ra * rg0 rb))), (0, .ref (mo 0)), (1, .int (nI t))]) hx hb dX5_product_162 hl (k := 1) rfl (nI_1 _) (by decide) rfl (fun ls hl => ?_)
              refine lv_goto (tgt := 117) hx hb dX5_product_165 (by decide) ?_
              exact ih3 (d9 - 1) (by omega) (i + 1) _ ((cy + S1 i) / 16777216) E ls H locs (by omega) hm (up_s (T := fun _ y => y < 16777216) hfb (by omega)) (by omega) (pr_cy hsum) (lv_sub hl [0, 1, 2, 3, 4] rfl) hw
        · refine lv_iconst (v := nI 0) hx hb dX5_product_34 (by decide) ?_
          refine lv_istore (lv' := [(5, .int (nI 0)), (4, .int (nI i)), (0, .ref (mo 0)), (1, .int (nI t)), (2, .int (nI ra)), (3, .int (nI rb))]) hx hb dX5_product_35 hl (by decide) rfl (fun ls hl => ?_)
          have hs0 : h_s S1 70 = h_s (Fo ra) i * h_s (Fo rb) 34 + Fo ra i * h_s (Fo rb) 0 * 16777216 ^ i := by
            rw [pr_0 (fb := Fo rb) (x := Fo ra i) (y := 16777216 ^ i) (z := h_s (Fo ra) i * h_s (Fo rb) 34)]
            exact hs
          have hu10 : ∀ k, k < 70 → S1 k ≤ (i + 1) * 281474976710656 := fun k hk => Nat.le_trans (hu k hk) (Nat.mul_le_mul_right _ (Nat.le_succ i))
          suffices hloop : ∀ (d8 j : Nat) (S2 : Nat → Nat) (E : Nat → va_E) (ls : Array Slot) (H : Heap) (locs : List Loc), j + d8 = 34 → md_at K E mo th P Fo Go S2 Ro → (h_s S2 70 = h_s (Fo ra) i * h_s (Fo rb) 34 + Fo ra i * h_s (Fo rb) j * 16777216 ^ i) → (∀ k, k < 70 → S2 k ≤ (i + 1) * 281474976710656) → (∀ k, i + j ≤ k → k < 70 → S2 k ≤ i * 281474976710656) → lv_has ls 8 [(5, .int (nI j)), (4, .int (nI i)), (0, .ref (mo 0)), (1, .int (nI t)), (2, .int (nI ra)), (3, .int (nI rb))] → bd_W K E z0 (bd_A K sz) s.heap H locs → W p l e (headSpec wsX5_product ({ frames := 1, cells := 0, slots := 0, locals := 30 })).room s m [.ref (mo 0), .int (nI t), .int (nI ra), .int (nI rb)].toArray below meth c H locs 0 0 (MQ below (va_Qv (mv_q K mo th P rg0 t (rg0 ra * rg0 rb)) (bd_B K) (bd_A K sz)) [.ref (mo 0), .int (nI t), .int (nI ra), .int (nI rb)].toArray s 0 0 (bd_A K sz)) (F0 m 37 ls []) from hloop 34 0 S1 E ls _ _ (by omega) hm hs0 hu10 (fun k _ hk => hu k hk) (lv_sub hl [0, 1, 2, 3, 4, 5] rfl) hw
          clear hw hl ls hm hs hu
          intro d8
          induction d8 using Nat.strongRecOn with
          | ind d8 ih3 =>
            intro j S2 E ls H locs hjd8 hm hs2 hu1 hu2 hl hw
            refine lv_iload hx hb dX5_product_37 (lv_at hl 0 rfl) ?_
            refine lv_bipush (v := nI 34) hx hb dX5_product_39 (by decide) ?_
            refine bd_ige (h1 := (by omega)) (h2 := (by omega)) (tgt := 90) hx hb dX5_product_41 (by decide) (fun hc41 => ?_) (fun hc41 => ?_)
            · refine lv_iinc (v := (nI (i + 1))) (lv' := [(4, .int (nI (i + 1))), (5, .int (nI j)), (0, .ref (mo 0)), (1, .int (nI t)), (2, .int (nI ra)), (3, .int (nI rb))]) hx hb dX5_product_90 hl (k := 1) rfl (nI_1 _) (by decide) rfl (fun ls hl => ?_)
              refine lv_goto (tgt := 27) hx hb dX5_product_93 (by decide) ?_
              exact ih2 (d9 - 1) (by omega) (i + 1) S2 E ls H locs (by omega) hm (by rw [hs2, show j = 34 by omega]; exact pr_row) hu1 (lv_sub hl [0, 2, 3, 4, 5] rfl) hw
            · refine lv_aload_n hx hb dX5_product_44 rfl (lv_at hl 2 rfl) ?_
              refine lv_iload_n hx hb dX5_product_45 rfl (lv_at hl 4 rfl) ?_
              refine lv_iload hx hb dX5_product_46 (lv_at hl 1 rfl) ?_
              refine bd_cip (As := [.int (nI ra), .int (nI i)]) (rest := []) C (m5_at _ _ _ _ _ hm ra i (by omega) (by omega)) (cwV 2 hts gX5_product_X5_at rfl rfl rfl (by decide +kernel) ⟨Nat.le_of_ble_eq_true rfl, Nat.le_of_ble_eq_true rfl⟩) hsz hw (md_recv C hw hm) dX5_product_48 rfl hl.1 rfl (Nat.le_of_ble_eq_true rfl) ⟨Nat.le_refl _, Nat.le_refl _⟩ (fun H locs hw => ?_)
              refine bd_zeq (h1 := (Nat.lt_of_lt_of_le (hFa i (by omega)) (by decide))) (tgt := 90) hx hb dX5_product_51 (by decide) (fun hc51 => ?_) (fun hc51 => ?_)
              · refine lv_iinc (v := (nI (i + 1))) (lv' := [(4, .int (nI (i + 1))), (5, .int (nI j)), (0, .ref (mo 0)), (1, .int (nI t)), (2, .int (nI ra)), (3, .int (nI rb))]) hx hb dX5_product_90 hl (k := 1) rfl (nI_1 _) (by decide) rfl (fun ls hl => ?_)
                refine lv_goto (tgt := 27) hx hb dX5_product_93 (by decide) ?_
                exact ih2 (d9 - 1) (by omega) (i + 1) S2 E ls H locs (by omega) hm (by rw [hs2, hc51]; exact pr_z hc51) hu1 (lv_sub hl [0, 2, 3, 4, 5] rfl) hw
              · have hxy : Fo ra i * Fo rb j ≤ 281474976710656 := pr_b (hFa i (by omega)) (hFb j (by omega))
                have hSj := hu2 (i + j) (Nat.le_refl _) (by omega)
                refine lv_aload_n hx hb dX5_product_54 rfl (lv_at hl 2 rfl) ?_
                refine md_g C i5 hw hm 5 (by decide) (v := .ref (mo 3)) rfl dX5_product_55 lk16 ?_
                refine lv_iload hx hb dX5_product_58 (lv_at hl 1 rfl) ?_
                refine lv_iload hx hb dX5_product_60 (lv_at hl 0 rfl) ?_
                refine bd_iadd (v := nI (i + j)) hx hb dX5_product_62 (nI_add _ _) ?_
                refine lv_dup2_11 hx hb dX5_product_63 rfl rfl ?_
                refine md_ld3 C hw hm dX5_product_64 (by omega) ?_
                refine lv_aload_n hx hb dX5_product_65 rfl (lv_at hl 2 rfl) ?_
                refine lv_iload_n hx hb dX5_product_66 rfl (lv_at hl 4 rfl) ?_
                refine lv_iload hx hb dX5_product_67 (lv_at hl 1 rfl) ?_
                refine bd_cip (As := [.int (nI ra), .int (nI i)]) (rest := [.long (lN (S2 (i + j))), .int (nI (i + j)), .ref (mo 3)]) C (m5_at _ _ _ _ _ hm ra i (by omega) (by omega)) (cwV 2 hts gX5_product_X5_at rfl rfl rfl (by decide +kernel) ⟨Nat.le_of_ble_eq_true rfl, Nat.le_of_ble_eq_true rfl⟩) hsz hw (md_recv C hw hm) dX5_product_69 rfl hl.1 rfl (Nat.le_of_ble_eq_true rfl) ⟨Nat.le_refl _, Nat.le_refl _⟩ (fun H locs hw => ?_)
                refine bd_i2l (v := (lN (Fo ra i))) hx hb dX5_product_72 (nI_l (Nat.lt_of_lt_of_le (hFa i (by omega)) (by decide))) ?_
                refine lv_aload_n hx hb dX5_product_73 rfl (lv_at hl 2 rfl) ?_
                refine lv_iload_n hx hb dX5_product_74 rfl (lv_at hl 5 rfl) ?_
                refine lv_iload hx hb dX5_product_75 (lv_at hl 0 rfl) ?_
                refine bd_cip (As := [.int (nI rb), .int (nI j)]) (rest := [.long (lN (Fo ra i)), .long (lN (S2 (i + j))), .int (nI (i + j)), .ref (mo 3)]) C (m5_at _ _ _ _ _ hm rb j (by omega) (by omega)) (cwV 2 hts gX5_product_X5_at rfl rfl rfl (by decide +kernel) ⟨Nat.le_of_ble_eq_true rfl, Nat.le_of_ble_eq_true rfl⟩) hsz hw (md_recv C hw hm) dX5_product_77 rfl hl.1 rfl (Nat.le_of_ble_eq_true rfl) ⟨Nat.le_refl _, Nat.le_refl _⟩ (fun H locs hw => ?_)
                refine bd_i2l (v := (lN (Fo rb j))) hx hb dX5_product_80 (nI_l (Nat.lt_of_lt_of_le (hFb j (by omega)) (by decide))) ?_
                refine bd_lmul (v := (lN ((Fo ra i) * (Fo rb j)))) hx hb dX5_product_81 (lN_mul _ _) ?_
                refine bd_ladd (v := (lN ((S2 (i + j)) + ((Fo ra i) * (Fo rb j))))) hx hb dX5_product_82 (lN_add _ _) ?_
                refine md_st3 C hw hm (r := (i + j)) (x := ((S2 (i + j)) + ((Fo ra i) * (Fo rb j)))) dX5_product_83 (by omega) (fun E H locs hm hw => ?_)
                refine lv_iinc (v := (nI (j + 1))) (lv' := [(5, .int (nI (j + 1))), (4, .int (nI i)), (0, .ref (mo 0)), (1, .int (nI t)), (2, .int (nI ra)), (3, .int (nI rb))]) hx hb dX5_product_84 hl (k := 0) rfl (nI_1 _) (by decide) rfl (fun ls hl => ?_)
                refine lv_goto (tgt := 37) hx hb dX5_product_87 (by decide) ?_
                exact ih3 (d8 - 1) (by omega) (j + 1) _ E ls H locs (by omega) hm (by rw [h_ua (by omega), hs2]; exact pr_st) (fun k hk => pr_b1 hu1 hu2 hxy k hk (by omega)) (fun k h1 hk => by rw [va_up_ne _ _ (by omega)]; exact hu2 k (by omega) hk) (lv_sub hl [0, 1, 2, 3, 4, 5] rfl) hw
    · refine lv_aload_n hx hb dX5_product_10 rfl (lv_at hl 1 rfl) ?_
      refine md_g C i5 hw hm 5 (by decide) (v := .ref (mo 3)) rfl dX5_product_11 lk16 ?_
      refine lv_iload hx hb dX5_product_14 (lv_at hl 0 rfl) ?_
      refine lv_lconst (v := lN 0) hx hb dX5_product_16 rfl ?_
      refine md_st3 C hw hm (r := i) (x := 0) dX5_product_17 (by omega) (fun E H locs hm hw => ?_)
      refine lv_iinc (v := (nI (i + 1))) (lv' := [(4, .int (nI (i + 1))), (0, .ref (mo 0)), (1, .int (nI t)), (2, .int (nI ra)), (3, .int (nI rb))]) hx hb dX5_product_18 hl (k := 0) rfl (nI_1 _) (by decide) rfl (fun ls hl => ?_)
      refine lv_goto (tgt := 3) hx hb dX5_product_21 (by decide) ?_
      exact ih (d9 - 1) (by omega) (i + 1) _ E ls H locs (by omega) hm (up_s (T := fun _ y => y = 0) hf rfl) (lv_sub hl [0, 1, 2, 3, 4] rfl) hw
set_option maxHeartbeats 4000000 in
set_option maxRecDepth 100000 in
/-- timesSmall(t, a, v) -/
theorem v5_timesSmall (l : Launch) (K : Cxt) (E0 : Nat → va_E) (z0 : Nat → Wh) (sz : Nat) {mo : Nat → Nat} {th : Int32} {P : Nat} {rg0 : Nat → Int} (hv : md_v K E0 mo th P rg0) (t ra : Nat) (v : Int32) (ht60 : t < 60) (ha60 : ra < 60) (ha32 : ra ≠ 32) (hfit : (rg0 ra * v.toInt).natAbs < 16777216 ^ 34) : Met l yX5_timesSmall wsX5_timesSmall ({ frames := 2, cells := 0, slots := 0, locals := 60 }) (va_Pc [.ref (mo 0), .int (nI t), .int (nI ra), .int v] (bd_P K E0 z0 sz)) (va_Qv (fun u => ∃ rg : Nat → Int, md_v K u.1 mo th P rg ∧ rg t = rg0 ra * v.toInt ∧ ∀ j, j ≠ t → j ≠ 32 → rg j = rg0 j) (bd_B K) (bd_A K sz)) 0 0 (bd_A K sz) := by
  refine bd_ofW (cc := cX5_timesSmall) (maxL := 4) (ret := none) (by decide) rfl (Nat.le_of_ble_eq_true rfl) ?_
  intro p e s m below meth c ls C hr hlk hsz hw hl
  have hx := C.1
  have hb := C.2.1
  have hown := C.2.2.2.1
  have hts := C.2.2.2.2.1
  have hl : lv_has ls 4 [(0, .ref (mo 0)), (1, .int (nI t)), (2, .int (nI ra)), (3, .int v)] := hl
  obtain ⟨hP1, hP2⟩ := mv_P hv
  refine lv_aload_n hx hb dX5_timesSmall_0 rfl (lv_at hl 0 rfl) ?_
  refine lv_bipush (v := nI 32) hx hb dX5_timesSmall_1 (by decide) ?_
  refine lv_iload_n hx hb dX5_timesSmall_3 rfl (lv_at hl 3 rfl) ?_
  refine bd_i2l (v := v.toInt64) hx hb dX5_timesSmall_4 (rfl) ?_
  refine bd_cv (As := [.int (nI 32), .long v.toInt64]) (rest := []) C (v5_put _ _ _ _ _ hv 32 v.toInt64 (by decide)) (cwV 2 hts gX5_timesSmall_X5_put rfl rfl rfl (by decide +kernel) ⟨Nat.le_of_ble_eq_true rfl, Nat.le_of_ble_eq_true rfl⟩) hsz hw (mv_recv C hw hv) dX5_timesSmall_5 rfl hl.1 rfl (Nat.le_of_ble_eq_true rfl) ⟨Nat.le_refl _, Nat.le_refl _⟩ (fun E z H locs hp hw => ?_)
  obtain ⟨rg, hv, hv9, hf9⟩ := hp
  rw [Int32.toInt_toInt64] at hv9
  have ha9 := hf9 ra ha32
  refine lv_aload_n hx hb dX5_timesSmall_8 rfl (lv_at hl 0 rfl) ?_
  refine lv_iload_n hx hb dX5_timesSmall_9 rfl (lv_at hl 1 rfl) ?_
  refine lv_iload_n hx hb dX5_timesSmall_10 rfl (lv_at hl 2 rfl) ?_
  refine lv_bipush (v := nI 32) hx hb dX5_timesSmall_11 (by decide) ?_
  refine bd_cv (As := [.int (nI t), .int (nI ra), .int (nI 32)]) (rest := []) C (v5_product _ _ _ _ _ hv t ra 32 ht60 ha60 (by decide) (by rw [ha9, hv9]; exact hfit)) (cwV 3 hts gX5_timesSmall_X5_product rfl rfl rfl (by decide +kernel) ⟨Nat.le_of_ble_eq_true rfl, Nat.le_of_ble_eq_true rfl⟩) hsz hw (mv_recv C hw hv) dX5_timesSmall_13 rfl hl.1 rfl (Nat.le_of_ble_eq_true rfl) ⟨Nat.le_refl _, Nat.le_refl _⟩ (fun E z H locs hp hw => ?_)
  obtain ⟨rg2, hv2, hv8, hf8⟩ := hp
  exact bd_vret C hr hlk hw dX5_timesSmall_16 ⟨rg2, hv2, by rw [hv8, ha9, hv9], fun j h1 h2 => (hf8 j h1).trans (hf9 j h2)⟩
