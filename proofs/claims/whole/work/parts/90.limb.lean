/-! BallDesk: partOf, limb (by hand) -/
theorem q_lm {f : Nat → Nat} : ∀ {n : Nat}, q_ok f n → ∀ j : Nat, q_s f n / 4294967296 ^ j % 4294967296 = q_at n f (j : Int)
  | 0, _, j => by
    rw [show q_s f 0 = 0 from rfl, Nat.zero_div]
    unfold q_at
    rw [if_neg (by omega)]
  | n + 1, h, j => by
    have h0 : q_ok f n := q_ok_le h (by omega)
    have h1 := q_lt h0
    have h2 := h n (by omega)
    have hs : q_s f (n + 1) = q_s f n + f n * 4294967296 ^ n := rfl
    have hp : 0 < 4294967296 ^ j := Nat.pow_pos (by decide)
    unfold q_at
    rcases Nat.lt_trichotomy j n with q | q | q
    · have hi := q_lm h0 j
      unfold q_at at hi
      rw [if_pos ⟨by omega, by omega⟩] at hi ⊢
      rw [← hi, hs, show n = j + (1 + (n - j - 1)) by omega, Nat.pow_add, Nat.pow_add, Nat.pow_one, show f (j + (1 + (n - j - 1))) * (4294967296 ^ j * (4294967296 * 4294967296 ^ (n - j - 1))) = 4294967296 ^ j * (4294967296 * (f (j + (1 + (n - j - 1))) * 4294967296 ^ (n - j - 1))) by ac_rfl, Nat.add_mul_div_left _ _ hp, Nat.add_mul_mod_self_left]
    · subst q
      rw [if_pos ⟨by omega, by omega⟩, Int.toNat_natCast, hs, Nat.mul_comm, Nat.add_mul_div_left _ _ hp, Nat.div_eq_of_lt h1, Nat.zero_add, Nat.mod_eq_of_lt h2]
    · rw [if_neg (by omega), Nat.div_eq_of_lt (Nat.lt_of_lt_of_le (q_lt h) (Nat.pow_le_pow_right (by decide) (by omega)))]
theorem q_szb {f : Nat → Nat} {n : Nat} (hf : q_ok f n) (ht : bd_tp n f) : n = (q_bl (q_s f n) + 31) / 32 := by
  rcases Nat.eq_zero_or_pos n with h | h
  · subst h
    show 0 = (q_bl 0 + 31) / 32
    unfold q_bl
    rw [if_pos rfl]
  · have h1 := q_bl_top h hf ht
    have h2 : Nat.log2 (f (n - 1)) < 32 := (Nat.log2_lt (ht h)).mpr (hf (n - 1) (by omega))
    omega
theorem lm_ok {n : Nat} {f : Nat → Nat} (h : q_r f) (hn : n ≤ 24) : q_ok f n := fun j hj => h j (by omega)
theorem v3_size (l : Launch) (K : Cxt) (E : Nat → va_E) (z : Nat → Wh) (sz : Nat) {sg : Nat → Int} (hS : sg_S K z sg) (h : Nat) (hh : h ∈ bd_N K) : Met l yX3_size wsX3_size ({ frames := 0, cells := 0, slots := 0, locals := 0 }) (va_Pc [.ref h] (bd_P K E z sz)) (va_Qi (fun r u => r = nI ((q_bl (sg h).natAbs + 31) / 32) ∧ u = (E, z)) (bd_B K) (bd_A K sz)) 0 0 (bd_A K sz) := by
  obtain ⟨n, g, f, hz, hn⟩ := sg_n hS hh
  obtain ⟨a1, a2, a3⟩ := bd_ok_sz hn.1
  rw [← bd_n_m hn, ← q_szb (lm_ok a2 a1) a3]
  exact c3_size l K E z sz h hh hz
theorem lm_sz {K : Cxt} {z : Nat → Wh} {sg : Nat → Int} (hS : sg_S K z sg) {h : Nat} (hh : h ∈ bd_N K) : (q_bl (sg h).natAbs + 31) / 32 ≤ 24 := by
  obtain ⟨n, g, f, hz, hn⟩ := sg_n hS hh
  obtain ⟨a1, a2, a3⟩ := bd_ok_sz hn.1
  rw [← bd_n_m hn, ← q_szb (lm_ok a2 a1) a3]
  exact a1
theorem v3_at (l : Launch) (K : Cxt) (E : Nat → va_E) (z : Nat → Wh) (sz : Nat) {sg : Nat → Int} (hS : sg_S K z sg) (h : Nat) (q : Nat) (hh : h ∈ bd_N K) (hq : q < 2 ^ 31) : Met l yX3_at wsX3_at ({ frames := 0, cells := 0, slots := 0, locals := 0 }) (va_Pc [.ref h, .int (nI q)] (bd_P K E z sz)) (va_Ql (fun r u => r = lN ((sg h).natAbs / 2 ^ (32 * q) % 4294967296) ∧ u = (E, z)) (bd_B K) (bd_A K sz)) 0 0 (bd_A K sz) := by
  obtain ⟨n, g, f, hz, hn⟩ := sg_n hS hh
  obtain ⟨a1, a2, a3⟩ := bd_ok_sz hn.1
  rw [← bd_n_m hn, Nat.pow_mul, show (2 : Nat) ^ 32 = 4294967296 from rfl, q_lm (lm_ok a2 a1)]
  exact c3_at l K E z sz h q hh hz a1 hq
/-- which number partOf gives -/
def pt_j (t i : Nat) : Nat := if t = 0 then 8 + i else if t = 1 then 20 + i else if t = 2 then 1 else 2
theorem pt_lt {t i : Nat} (hi : i < 12) : pt_j t i < 32 := by
  unfold pt_j
  split
  · omega
  · split
    · omega
    · split <;> omega
set_option maxHeartbeats 4000000 in
set_option maxRecDepth 100000 in
theorem c4_partOf (l : Launch) (K : Cxt) (E0 : Nat → va_E) (z0 : Nat → Wh) (sz : Nat) {P : Nat} {a B : Nat → Nat} (hbk : bk_at K E0 P a B) {sg0 : Nat → Int} (hS : sg_S K z0 sg0) {mu ra : Nat → Int} (hiv : bk_iv P B sg0 mu ra) (i t : Nat) (hi : i < 12) (ht : t ≤ 3) : Met l yX4_partOf wsX4_partOf ({ frames := 5, cells := 0, slots := 0, locals := 160 }) (va_Pc [.ref (a 0), .ref (a (3 + i)), .int (nI t)] (bd_P K E0 z0 sz)) (va_Qr (fun u => u.1 = E0 ∧ ∃ sg1 : Nat → Int, sg_S K u.2 sg1 ∧ bk_iv P B sg1 mu ra ∧ sg1 (B (pt_j t i)) = dk_part t (mu i) (ra i)) (fun u q t9 => bd_B K u t9 ∧ q = B (pt_j t i)) (bd_A K sz)) 0 0 (bd_A K sz) := by
  refine bd_ofW (cc := cX4_partOf) (maxL := 3) (ret := some (.object "BallDesk$Whole")) (by decide) rfl (Nat.le_of_ble_eq_true rfl) ?_
  intro p e s m below meth c ls C hr hlk hsz hw hl
  have hx := C.1
  have hb := C.2.1
  have hown := C.2.2.2.1
  have hts := C.2.2.2.2.1
  have i4 : ∀ w ∈ wsX40, w ∈ wsX4_partOf := by decide +kernel
  have ib0 : ∀ w ∈ wsX00, w ∈ wsX4_partOf := by decide +kernel
  have hl : lv_has ls 3 [(0, .ref (a 0)), (1, .ref (a (3 + i))), (2, .int (nI t))] := hl
  obtain ⟨hP1, hP2⟩ := bk_P hbk
  obtain ⟨e1, e2, -⟩ := hiv.2.2 i hi
  refine lv_iload_n hx hb dX4_partOf_0 rfl (lv_at hl 2 rfl) ?_
  refine bd_zne (tgt := 9) (by omega) hx hb dX4_partOf_1 (by decide) (fun hc1 => ?_) (fun hc1 => ?_)
  · refine lv_iload_n hx hb dX4_partOf_9 rfl (lv_at hl 2 rfl) ?_
    refine lv_iconst (v := nI 1) hx hb dX4_partOf_10 (by decide) ?_
    refine bd_ine (tgt := 19) (by omega) (by decide) hx hb dX4_partOf_11 (by decide) (fun hc11 => ?_) (fun hc11 => ?_)
    · refine lv_aload_n hx hb dX4_partOf_19 rfl (lv_at hl 0 rfl) ?_
      refine lv_aload_n hx hb dX4_partOf_20 rfl (lv_at hl 1 rfl) ?_
      have hbd := bk_b hP2 hiv hi
      refine bd_cv (As := [.ref (a (3 + i))]) (rest := []) C (c4_findEnds _ _ _ _ _ hbk hS i hi (by rw [e1, e2]; exact Nat.lt_of_le_of_lt (Nat.add_le_add hbd.1 hbd.2.2) (by decide +kernel))) (cwV 1 hts gX4_partOf_X4_findEnds rfl rfl rfl (by decide +kernel) ⟨Nat.le_of_ble_eq_true rfl, Nat.le_of_ble_eq_true rfl⟩) hsz hw (bk_recv C hw hbk) dX4_partOf_21 rfl hl.1 rfl (Nat.le_of_ble_eq_true rfl) ⟨Nat.le_refl _, Nat.le_refl _⟩ (fun E z H locs hp hw => ?_)
      obtain ⟨hE, sg, hS, h1, h2, hf⟩ := hp
      have hE : E = E0 := hE
      rw [hE] at hw
      have hiv1 : bk_iv P B sg mu ra := bk_ivm hiv (fun j h1 h2 => hf (B j) (bk_ne hbk (by omega) (by omega) (by omega)) (bk_ne hbk (by omega) (by omega) (by omega))) (fn_ivm hiv.2.1 (hf (bk_A B 1) (bk_ne hbk (i := 31 + 1) (j := 1) (by decide) (by decide) (by decide)) (bk_ne hbk (i := 31 + 1) (j := 2) (by decide) (by decide) (by decide))) (hf (bk_A B 2) (bk_ne hbk (i := 31 + 2) (j := 1) (by decide) (by decide) (by decide)) (bk_ne hbk (i := 31 + 2) (j := 2) (by decide) (by decide) (by decide))) (hf (bk_A B 3) (bk_ne hbk (i := 31 + 3) (j := 1) (by decide) (by decide) (by decide)) (bk_ne hbk (i := 31 + 3) (j := 2) (by decide) (by decide) (by decide))))
      refine lv_iload_n hx hb dX4_partOf_24 rfl (lv_at hl 2 rfl) ?_
      refine lv_iconst (v := nI 2) hx hb dX4_partOf_25 (by decide) ?_
      refine bd_ine (tgt := 36) (by omega) (by decide) hx hb dX4_partOf_26 (by decide) (fun hc26 => ?_) (fun hc26 => ?_)
      · refine lv_aload_n hx hb dX4_partOf_36 rfl (lv_at hl 0 rfl) ?_
        refine bk_g C i4 hw hbk 5 (by decide) (v := .ref (B 2)) rfl dX4_partOf_37 (by decide +kernel) ?_
        have h3 : t = 3 := by omega
        subst h3
        exact bd_aret C hr hlk hw dX4_partOf_40 ⟨rfl, sg, hS, hiv1, h2.trans (by rw [e1, e2]; rfl)⟩
      · subst hc26
        refine lv_aload_n hx hb dX4_partOf_29 rfl (lv_at hl 0 rfl) ?_
        refine bk_g C i4 hw hbk 4 (by decide) (v := .ref (B 1)) rfl dX4_partOf_30 (by decide +kernel) ?_
        refine lv_goto (tgt := 40) hx hb dX4_partOf_33 (by decide) ?_
        exact bd_aret C hr hlk hw dX4_partOf_40 ⟨rfl, sg, hS, hiv1, h1.trans (by rw [e1, e2]; rfl)⟩
    · subst hc11
      refine lv_aload_n hx hb dX4_partOf_14 rfl (lv_at hl 1 rfl) ?_
      refine bl_gr C ib0 hw (bk_pl hbk hi) dX4_partOf_15 (by decide +kernel) ?_
      exact bd_aret C hr hlk hw dX4_partOf_18 ⟨rfl, sg0, hS, hiv, e2⟩
  · subst hc1
    refine lv_aload_n hx hb dX4_partOf_4 rfl (lv_at hl 1 rfl) ?_
    refine bl_gm C ib0 hw (bk_pl hbk hi) dX4_partOf_5 (by decide +kernel) ?_
    exact bd_aret C hr hlk hw dX4_partOf_8 ⟨rfl, sg0, hS, hiv, e1⟩
abbrev lb_n : List String := ["java/lang/RuntimeException", "java/lang/Exception"]
def lb_E : String := "java/lang/IndexOutOfBoundsException"
/-- words of a throw that go with the state -/
def lb_B : List Cond := [.declares (Bundle.initS "java/lang/RuntimeException"), .declares (Bundle.initS "java/lang/Exception"), .declares (Bundle.initS "java/lang/Throwable"), .castable lb_E lb_E]
def lb_Ns (U : State) : Prop := ∀ w, w ∈ lb_B → va_Nw w U
theorem lb_ot : ∀ w, w ∈ lb_B → w.onTables = true := by decide +kernel
theorem lb_Ns.warm {s U : State} (hW : s.WarmedH U.vm) (h : lb_Ns s) : lb_Ns U := by
  intro w hw
  have h1 := h w hw
  unfold lb_B at hw
  simp only [List.mem_cons, List.not_mem_nil, or_false] at hw
  rcases hw with rfl | rfl | rfl | rfl
  · exact va_Nw.warmD hW h1
  · exact va_Nw.warmD hW h1
  · exact va_Nw.warmD hW h1
  · exact va_Nw.warmC hW h1
theorem lb_in : ∀ w ∈ (vx_atS RX4 197 lb_E lb_n).filter goodWord, w ∈ wsX4_limb := by decide +kernel
theorem lb_not : ∀ w ∈ (vx_atS RX4 197 lb_E lb_n).filter (fun w => !goodWord w), w ∈ lb_B := by decide +kernel
theorem lb_hat {args : Array Value} {s : State} (hts : ∀ w ∈ wsX4_limb, w.before args s = true) (hB : lb_Ns s) : ∀ w ∈ vx_atS RX4 197 lb_E lb_n, w.before args s = true := vx_hat (fun w h => hts w (lb_in w h)) lb_not (fun w h => va_Nw.use (lb_ot w h) (hB w h))
theorem lb_good : ∀ w ∈ Cond.classLink RX4 193 lb_E :: Cond.initialized lb_E :: vx_atS RX4 197 lb_E lb_n, vx_ot w = true := by decide +kernel
/-- a start in which limb may throw: its text, what Throwable's constructor reads -/
def bd_PX (K : Cxt) (E : Nat → va_E) (z : Nat → Wh) (sz sa : Nat) (U : State) : Prop := bd_P K E z sz U ∧ vk_R RX4 195 "no such limb" sa U ∧ vx_Zq Bundle.tN "UNASSIGNED_STACK" Bundle.steD (bd_A K sz) U U.heap ∧ vx_Zq Bundle.tN "SUPPRESSED_SENTINEL" Bundle.listD (bd_A K sz) U U.heap ∧ lb_Ns U
/-- the world behind a throw -/
def lb_X (K : Cxt) (px : bd_U → Prop) (sz : Nat) : String → State → State → Prop := vx_X px (fun E u t => E = lb_E ∧ bd_B K u t) (bd_A K sz)
theorem bd_ofX {l : Launch} {y : MethodName} {ws ws' : List Cond} {rm : Room} {Qc : Array Value → State → Outcome → State → Prop} {XC : String → State → State → Prop} {mc ms : Nat} {cc : ByteArray} {maxL sz sa : Nat} {ret : Option FieldType} {av : List Value} {K : Cxt} {E : Nat → va_E} {z : Nat → Wh} (hy : plainName y.cls = true) (hw : ws = Cond.code y cc maxL ret :: ws') (hn : (lg_sl av).length ≤ maxL)
    (body : ∀ (p : Program) (e : Env) (s : State) (m : MethodId) (below : List Frame) (meth : Method) (c : Code) (ls : Array Slot), bd_C p s m av.toArray c cc maxL ws y.cls K → meth.sig.returnType = ret → meth.locks = false → s.heap.size = sz → bd_W K E z (bd_A K sz) s.heap s.heap [] → lv_has ls maxL (lv_args 0 av) → (∀ x ∈ c.exceptionTable.toList, False) → vk_R RX4 195 "no such limb" sa s → vx_Zq Bundle.tN "UNASSIGNED_STACK" Bundle.steD (bd_A K sz) s s.heap → vx_Zq Bundle.tN "SUPPRESSED_SENTINEL" Bundle.listD (bd_A K sz) s s.heap → lb_Ns s →
      W p l e (headSpec ws rm).room s m av.toArray below meth c s.heap [] 0 0 (vx_MQ below Qc XC av.toArray s mc ms (bd_A K sz)) (F0 m 0 ls [])) : vx_Met l y ws rm (va_Pc av (bd_PX K E z sz sa)) Qc XC mc ms (bd_A K sz) := by
  refine vx_ofW (cc := cc) (maxL := maxL) (ret := ret) hy hw ?_
  intro p e s m args below meth c s₁ B hml htb hv
  obtain ⟨rfl, ⟨hsz, hP, hK, hD, hyy, hNs⟩, h1, h2, h3, h4⟩ := hv
  rw [lg_entry_eq]
  exact body p e s m below meth c _ ⟨B.exec, B.bytes, hml, findClass_of_methodNamed B.named, atoms_spec (ws := ws) B.pre, hK, hyy, hNs⟩ B.returns B.notSynchronized hsz ⟨hP, ⟨hD.1, fun k q h => bd_inL h⟩, va_S.rf⟩ (lv_entry av hn) htb h1 h2 h3 h4
theorem lb_thrown {K : Cxt} {E : Nat → va_E} {z : Nat → Wh} {px : bd_U → Prop} {sz : Nat} {s : State} {H : Heap} {locs : List Loc} (hK : va_K (bd_D K) vwCl (bd_t K) s) (hw : bd_W K E z (bd_A K sz) s.heap H locs) (hp : px (E, z)) (t : State) (hvm : s.vm.Alike t.vm) (hz : H.size ≤ t.heap.size) (hk : ∀ q : Nat, q < H.size → t.heap[q]? = H[q]?) : lb_X K px sz lb_E s t := by
  refine ⟨(E, z), hp, ⟨rfl, ?_, va_K.moved hvm hK, ⟨hw.2.1.1, fun _ _ _ => trivial⟩⟩, Nat.le_trans hw.2.2.1 hz, fun q h1 h2 => ?_⟩
  · exact hw.1.kept (fun k q hq => hk _ ((hw.1 k q hq).lt))
  · rw [hk q (Nat.lt_of_lt_of_le h1 hw.2.2.1)]
    exact hw.2.2.2.1 q h1 h2
theorem lm_w {lb : Int32} {v : Int} (h1 : ¬ lb = -1) (h2 : lb.toInt < 0 ∨ ((max 1 ((q_bl v.natAbs + 31) / 32) : Nat) : Int) ≤ lb.toInt) : (dk_limv lb v).1 = 1 := by
  unfold dk_limv
  rw [if_neg h1, if_pos h2]
theorem lm_n {q : Nat} {v : Int} (h1 : ¬ nI q = -1) (h2 : q < 2 ^ 31) (h3 : q < max 1 ((q_bl v.natAbs + 31) / 32)) : dk_limv (nI q) v = (0, lN (v.natAbs / 2 ^ (32 * q) % 4294967296)) := by
  have h4 : (nI q).toInt = (q : Int) := nI_toInt h2
  unfold dk_limv
  rw [if_neg h1, if_neg (by rw [h4]; omega), h4, Int.toNat_natCast]
/-- limb's end -/
def lb_post (K : Cxt) (P : Nat) (a B : Nat → Nat) (t : Int32 × Int64) (mu ra : Nat → Int) (r : Int64) (u : bd_U) : Prop := t = (0, r) ∧ bk_at K u.1 P a B ∧ ∃ sg1 : Nat → Int, sg_S K u.2 sg1 ∧ bk_iv P B sg1 mu ra
def lb_px (K : Cxt) (P : Nat) (a B : Nat → Nat) (t : Int32 × Int64) (mu ra : Nat → Int) (u : bd_U) : Prop := t.1 = 1 ∧ bk_at K u.1 P a B ∧ ∃ sg1 : Nat → Int, sg_S K u.2 sg1 ∧ bk_iv P B sg1 mu ra
theorem lb_ret {p : Program} {l : Launch} {e : Env} {R : Room} {s : State} {m : MethodId} {args : Array Value} {below : List Frame} {meth : Method} {c : Code} {H : Heap} {locs : List Loc} {cc : ByteArray} {pc nL sz : Nat} {ls : Array Slot} {K : Cxt} {E : Nat → va_E} {z : Nat → Wh} {Ts : List Cond} {own : String} {post : Int64 → bd_U → Prop} {XC : String → State → State → Prop} {v : Int64} (C : bd_C p s m args c cc nL Ts own K) (hr : meth.sig.returnType = some .long) (hlk : meth.locks = false) (hw : bd_W K E z (bd_A K sz) s.heap H locs) (hd : decode cc pc = .ok (.lreturn, 1)) (hp : post v (E, z)) :
    W p l e R s m args below meth c H locs 0 0 (vx_MQ below (va_Ql post (bd_B K) (bd_A K sz)) XC args s 1 6 (bd_A K sz)) (F0 m pc ls [.long v]) := vx_ret (W.widen (k := 1) (n := 6) (by omega) (by omega) (bd_lret C hr hlk hw hd hp))
set_option maxHeartbeats 4000000 in
set_option maxRecDepth 100000 in
/-- limb -/
theorem c4_limb (l : Launch) (htr : l.stackTraces = false) (K : Cxt) (E0 : Nat → va_E) (z0 : Nat → Wh) (sz sa : Nat) {P : Nat} {a B : Nat → Nat} (hbk : bk_at K E0 P a B) {sg0 : Nat → Int} (hS : sg_S K z0 sg0) {mu ra : Nat → Int} (hiv : bk_iv P B sg0 mu ra) (k part lb : Int32) : vx_Met l yX4_limb wsX4_limb ({ frames := 7, cells := 1, slots := 6, locals := 240 }) (va_Pc [.ref (a 0), .int k, .int part, .int lb] (bd_PX K E0 z0 sz sa)) (va_Ql (lb_post K P a B (dk_limb k part lb mu ra) mu ra) (bd_B K) (bd_A K sz)) (lb_X K (lb_px K P a B (dk_limb k part lb mu ra) mu ra) sz) 1 6 (bd_A K sz) := by
  refine bd_ofX (cc := cX4_limb) (maxL := 5) (ret := some .long) (by decide) rfl (Nat.le_of_ble_eq_true rfl) ?_
  intro p e s m below meth c ls C hr hlk hsz hw hl htb hstr hU hN hB
  have hx := C.1
  have hb := C.2.1
  have hml := C.2.2.1
  have hown := C.2.2.2.1
  have hts := C.2.2.2.2.1
  have i4 : ∀ w ∈ wsX40, w ∈ wsX4_limb := by decide +kernel
  have hl : lv_has ls 5 [(0, .ref (a 0)), (1, .int k), (2, .int part), (3, .int lb)] := hl
  obtain ⟨hP1, hP2⟩ := bk_P hbk
  have hbad : ∀ {H : Heap} {locs : List Loc} {ls : Array Slot}, dk_limb k part lb mu ra = (0, -2) → bd_W K E0 z0 (bd_A K sz) s.heap H locs → W p l e (headSpec wsX4_limb ({ frames := 7, cells := 1, slots := 6, locals := 240 })).room s m [.ref (a 0), .int k, .int part, .int lb].toArray below meth c H locs 0 0 (vx_MQ below (va_Ql (lb_post K P a B (dk_limb k part lb mu ra) mu ra) (bd_B K) (bd_A K sz)) (lb_X K (lb_px K P a B (dk_limb k part lb mu ra) mu ra) sz) [.ref (a 0), .int k, .int part, .int lb].toArray s 1 6 (bd_A K sz)) (F0 m 16 ls []) := fun hd hw => lv_ldc2 (own := RX4) (index := 184) (v := -2) hx hb hown (hts _ (by decide +kernel)) dX4_limb_16 (lb_ret C hr hlk hw dX4_limb_19 ⟨hd, hbk, sg0, hS, hiv⟩)
  refine lv_iload_n hx hb dX4_limb_0 rfl (lv_at hl 1 rfl) ?_
  refine bd_sip (As := [.int k]) (rest := []) C (c4_isPlace l K E0 z0 _ k) (cwS 1 hts gX4_limb_X4_isPlace rfl rfl rfl (by decide +kernel) ⟨Nat.le_of_ble_eq_true rfl, Nat.le_of_ble_eq_true rfl⟩) hsz hw dX4_limb_1 rfl hl.1 rfl (Nat.le_of_ble_eq_true rfl) ⟨by decide, by decide⟩ (fun H locs hw => ?_)
  refine lv_if_eq (tgt := 16) hx hb dX4_limb_4 (by decide) (fun hc4 => ?_) (fun hc4 => ?_)
  · exact hbad (if_neg (fun q => pl_f hc4 q.1)) hw
  have hpl : dk_pl k := pl_t hc4
  refine lv_iload_n hx hb dX4_limb_7 rfl (lv_at hl 2 rfl) ?_
  refine lv_if_lt (tgt := 16) hx hb dX4_limb_8 (by decide) (fun hc8 => ?_) (fun hc8 => ?_)
  · exact hbad (if_neg (fun q => absurd (Int32.lt_iff_toInt_lt.mp hc8) (Int.not_lt.mpr q.2.1))) hw
  have hp0 : 0 ≤ part.toInt := Int.not_lt.mp (fun q => hc8 (Int32.lt_iff_toInt_lt.mpr q))
  refine lv_iload_n hx hb dX4_limb_11 rfl (lv_at hl 2 rfl) ?_
  refine lv_iconst (v := nI 3) hx hb dX4_limb_12 (by decide) ?_
  refine lv_icmp_le (tgt := 20) hx hb dX4_limb_13 (by decide) (fun hc13 => ?_) (fun hc13 => ?_)
  rotate_left
  · exact hbad (if_neg (fun q => hc13 (Int32.le_iff_toInt_le.mpr q.2.2))) hw
  have hp3 : part.toInt ≤ 3 := Int32.le_iff_toInt_le.mp hc13
  clear hbad
  obtain ⟨kn, hkn, rfl, hxk⟩ := pl_x hpl
  obtain ⟨tn, htn, rfl⟩ := lm_t hp0 hp3
  refine lv_aload_n hx hb dX4_limb_20 rfl (lv_at hl 0 rfl) ?_
  refine lv_aload_n hx hb dX4_limb_21 rfl (lv_at hl 0 rfl) ?_
  refine bk_g C i4 hw hbk 2 (by decide) (v := .ref (a 1)) rfl dX4_limb_22 (by decide +kernel) ?_
  refine lv_iload_n hx hb dX4_limb_25 rfl (lv_at hl 1 rfl) ?_
  refine bk_ald C hw hbk hkn dX4_limb_26 ?_
  refine lv_iload_n hx hb dX4_limb_27 rfl (lv_at hl 2 rfl) ?_
  refine bd_cr (As := [.ref (a (3 + kn)), .int (nI tn)]) (rest := []) C (c4_partOf _ _ _ _ _ hbk hS hiv kn tn hkn htn) (cwV 2 hts gX4_limb_X4_partOf rfl rfl rfl (by decide +kernel) ⟨Nat.le_of_ble_eq_true rfl, Nat.le_of_ble_eq_true rfl⟩) hsz hw (bk_recv C hw hbk) dX4_limb_28 rfl hl.1 rfl (Nat.le_of_ble_eq_true rfl) ⟨by decide, by decide⟩ (fun E z H locs hp hw => ?_)
  obtain ⟨hE, sg, hS, hiv, hpv⟩ := hp
  have hE : E = E0 := hE
  rw [hE] at hw
  have hin : B (pt_j tn kn) ∈ bd_N K := bk_in hbk (Nat.lt_of_lt_of_le (pt_lt hkn) (by decide))
  generalize pt_j tn kn = j at hpv hin ⊢
  have hlim : ∀ lb, dk_limb (nI kn) (nI tn) lb mu ra = dk_limv lb (sg (B j)) := fun lb => lm_v hpl hxk htn hpv
  rw [hlim]
  refine lv_astore (lv' := [(4, .ref (B j)), (0, .ref (a 0)), (1, .int (nI kn)), (2, .int (nI tn)), (3, .int lb)]) hx hb dX4_limb_31 hl (by decide) rfl (fun ls hl => ?_)
  refine lv_iload_n hx hb dX4_limb_33 rfl (lv_at hl 4 rfl) ?_
  refine lv_iconst (v := -1) hx hb dX4_limb_34 (by decide) ?_
  refine lv_icmp_ne (tgt := 45) hx hb dX4_limb_35 (by decide) (fun hc35 => ?_) (fun hc35 => ?_)
  rotate_left
  · refine lv_aload hx hb dX4_limb_38 (lv_at hl 0 rfl) ?_
    refine bd_cip (As := []) (rest := []) C (v3_sign _ _ _ _ _ hS (B j) hin) (cwV 0 hts gX4_limb_X3_sign rfl rfl rfl (by decide +kernel) ⟨Nat.le_of_ble_eq_true rfl, Nat.le_of_ble_eq_true rfl⟩) hsz hw (bd_recv C hw hin) dX4_limb_40 rfl hl.1 rfl (Nat.le_of_ble_eq_true rfl) ⟨by decide, by decide⟩ (fun H locs hw => ?_)
    refine bd_i2l hx hb dX4_limb_43 rfl ?_
    exact lb_ret C hr hlk hw dX4_limb_44 ⟨by unfold dk_limv; rw [if_pos hc35], hbk, sg, hS, hiv⟩
  have hthr : ∀ {H : Heap} {locs : List Loc} {ls : Array Slot}, (lb.toInt < 0 ∨ ((max 1 ((q_bl (sg (B j)).natAbs + 31) / 32) : Nat) : Int) ≤ lb.toInt) → ls.size = 5 → bd_W K E0 z (bd_A K sz) s.heap H locs → W p l e (headSpec wsX4_limb ({ frames := 7, cells := 1, slots := 6, locals := 240 })).room s m [.ref (a 0), .int (nI kn), .int (nI tn), .int lb].toArray below meth c H locs 0 0 (vx_MQ below (va_Ql (lb_post K P a B (dk_limv lb (sg (B j))) mu ra) (bd_B K) (bd_A K sz)) (lb_X K (lb_px K P a B (dk_limv lb (sg (B j))) mu ra) sz) [.ref (a 0), .int (nI kn), .int (nI tn), .int lb].toArray s 1 6 (bd_A K sz)) (F0 m 62 ls []) := fun hthr hls hw => vx_throwS (own := RX4) (cls := lb_E) (text := "no such limb") (names := lb_n) (ik := 193) (is := 195) (ic := 197) (sa := sa) (A := bd_A K sz) hx hb htr hown (by decide +kernel) (by decide +kernel) (hts _ (by decide +kernel)) (hts _ (by decide +kernel)) hstr (lb_hat hts hB) lb_good hU hN hw.2.2 (hls.trans hml.symm) dX4_limb_62 dX4_limb_65 dX4_limb_66 dX4_limb_68 dX4_limb_71 (fun x hx9 => (htb x hx9).elim) (Nat.le_of_ble_eq_true rfl) (Nat.le_of_ble_eq_true rfl) (Nat.le_of_ble_eq_true rfl) (Nat.le_of_ble_eq_true rfl) hlk (fun t h1 h2 h3 => lb_thrown C.2.2.2.2.2.1 hw ⟨lm_w hc35 hthr, hbk, sg, hS, hiv⟩ t h1 h2 h3) hw.2.2.2.2 (by decide) (by decide)
  refine lv_iload_n hx hb dX4_limb_45 rfl (lv_at hl 4 rfl) ?_
  refine lv_if_lt (tgt := 62) hx hb dX4_limb_46 (by decide) (fun hc46 => ?_) (fun hc46 => ?_)
  · exact hthr (Or.inl (Int32.lt_iff_toInt_lt.mp hc46)) hl.1 hw
  have hl0 : 0 ≤ lb.toInt := Int.not_lt.mp (fun q => hc46 (Int32.lt_iff_toInt_lt.mpr q))
  obtain ⟨q, hq31, rfl⟩ := lm_q hl0
  have hsz24 := lm_sz hS hin
  refine lv_iload_n hx hb dX4_limb_49 rfl (lv_at hl 4 rfl) ?_
  refine lv_iconst (v := nI 1) hx hb dX4_limb_50 (by decide) ?_
  refine lv_aload hx hb dX4_limb_51 (lv_at hl 0 rfl) ?_
  refine bd_cip (As := []) (rest := [.int (nI 1), .int (nI q)]) C (v3_size _ _ _ _ _ hS (B j) hin) (cwV 0 hts gX4_limb_X3_size rfl rfl rfl (by decide +kernel) ⟨Nat.le_of_ble_eq_true rfl, Nat.le_of_ble_eq_true rfl⟩) hsz hw (bd_recv C hw hin) dX4_limb_53 rfl hl.1 rfl (Nat.le_of_ble_eq_true rfl) ⟨by decide, by decide⟩ (fun H locs hw => ?_)
  refine bd_max (v := max 1 ((q_bl (sg (B j)).natAbs + 31) / 32)) C hl.1 (by decide) (by omega) rfl dX4_limb_56 (by decide +kernel) (by decide +kernel) (by decide +kernel) (by decide +kernel) (Nat.le_of_ble_eq_true rfl) (Nat.le_of_ble_eq_true rfl) ⟨by decide, by decide⟩ ?_
  refine bd_ilt (tgt := 72) hq31 (by omega) hx hb dX4_limb_59 (by decide) (fun hc59 => ?_) (fun hc59 => ?_)
  rotate_left
  · exact hthr (Or.inr (by rw [nI_toInt hq31]; omega)) hl.1 hw
  refine lv_aload hx hb dX4_limb_72 (lv_at hl 0 rfl) ?_
  refine lv_iload_n hx hb dX4_limb_74 rfl (lv_at hl 4 rfl) ?_
  refine bd_clp (As := [.int (nI q)]) (rest := []) C (v3_at _ _ _ _ _ hS (B j) q hin hq31) (cwV 1 hts gX4_limb_X3_at rfl rfl rfl (by decide +kernel) ⟨Nat.le_of_ble_eq_true rfl, Nat.le_of_ble_eq_true rfl⟩) hsz hw (bd_recv C hw hin) dX4_limb_75 rfl hl.1 rfl (Nat.le_of_ble_eq_true rfl) ⟨by decide, by decide⟩ (fun H locs hw => ?_)
  exact lb_ret C hr hlk hw dX4_limb_78 ⟨lm_n hc35 hq31 hc59, hbk, sg, hS, hiv⟩
