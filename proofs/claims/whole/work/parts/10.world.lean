/-! THE CLASS'S WORLD: the cells of all numbers (BallDesk$Whole: an object and its row), by their addresses; what else lies there is told by E. -/
abbrev vwCl : List vw_C := [(RX0, TX0, 2), (RX1, TX1, 4), (RX2, TX2, 12), (RX3, TX3, 3), (RX4, TX4, 11), (RX5, TX5, 7)]
/-- a number as it lies there: how many limbs, the sign, the row -/
abbrev Wh : Type := Nat × Int32 × (Nat → Nat)
/-- what stays: the classes' numbers, the array classes (int, long, Ball), all addresses, those of the numbers, a number's row, a row's number -/
abbrev Cxt : Type := va_G × (ClassId × ClassId × ClassId) × List Nat × List Nat × (Nat → Nat) × (Nat → Nat)
abbrev bd_D (K : Cxt) : va_G := K.1
abbrev bd_I (K : Cxt) : ClassId := K.2.1.1
abbrev bd_J (K : Cxt) : ClassId := K.2.1.2.1
abbrev bd_O (K : Cxt) : ClassId := K.2.1.2.2
abbrev bd_L (K : Cxt) : List Nat := K.2.2.1
abbrev bd_N (K : Cxt) : List Nat := K.2.2.2.1
abbrev bd_r (K : Cxt) : Nat → Nat := K.2.2.2.2.1
abbrev bd_w (K : Cxt) : Nat → Nat := K.2.2.2.2.2
abbrev bd_t (K : Cxt) : List (ClassId × FieldType) := [(bd_I K, .int), (bd_J K, .long), (bd_O K, .object "BallDesk$Ball")]
/-- how they lie: a number and its row are apart, a row tells its number -/
def bd_y (K : Cxt) : Prop := ∀ b, b ∈ bd_N K → b ∈ bd_L K ∧ bd_r K b ∈ bd_L K ∧ bd_r K b ∉ bd_N K ∧ bd_w K (bd_r K b) = b
/-- what lies at an address -/
def bd_e (K : Cxt) (E : Nat → va_E) (z : Nat → Wh) : Nat → va_E := fun b =>
  if b ∈ bd_N K then .inr (3, [.ref (bd_r K b), .int (nI (z b).1), .int (z b).2.1])
  else if bd_w K b ∈ bd_N K ∧ bd_r K (bd_w K b) = b then .inl (bd_J K, 24, .inr (.inl (fun j => lN ((z (bd_w K b)).2.2 j))))
  else E b
theorem bd_eW {K : Cxt} {E : Nat → va_E} {z : Nat → Wh} {b : Nat} (h : b ∈ bd_N K) : bd_e K E z b = .inr (3, [.ref (bd_r K b), .int (nI (z b).1), .int (z b).2.1]) := by
  unfold bd_e
  rw [if_pos h]
theorem bd_eR {K : Cxt} {E : Nat → va_E} {z : Nat → Wh} {b : Nat} (hy : bd_y K) (h : b ∈ bd_N K) : bd_e K E z (bd_r K b) = .inl (bd_J K, 24, .inr (.inl (fun j => lN ((z b).2.2 j)))) := by
  obtain ⟨-, -, h3, h4⟩ := hy b h
  unfold bd_e
  rw [if_neg h3, if_pos ⟨by rw [h4]; exact h, by rw [h4]⟩, h4]
theorem bd_uW {K : Cxt} {E : Nat → va_E} {z : Nat → Wh} {b : Nat} (h : b ∈ bd_N K) (n : Nat) (g : Int32) : va_up (bd_e K E z) b (.inr (3, [.ref (bd_r K b), .int (nI n), .int g])) = bd_e K E (va_up z b (n, g, (z b).2.2)) := by
  funext q
  by_cases hq : q = b
  · subst hq
    rw [va_up_self, bd_eW h, va_up_self]
  · rw [va_up_ne _ _ hq]
    unfold bd_e
    by_cases h1 : q ∈ bd_N K
    · rw [if_pos h1, if_pos h1, va_up_ne _ _ hq]
    · rw [if_neg h1, if_neg h1]
      by_cases h2 : bd_w K q ∈ bd_N K ∧ bd_r K (bd_w K q) = q
      · rw [if_pos h2, if_pos h2]
        by_cases h3 : bd_w K q = b
        · rw [h3, va_up_self]
        · rw [va_up_ne _ _ h3]
      · rw [if_neg h2, if_neg h2]
theorem bd_uR {K : Cxt} {E : Nat → va_E} {z : Nat → Wh} {b : Nat} (hy : bd_y K) (h : b ∈ bd_N K) (f : Nat → Nat) : va_up (bd_e K E z) (bd_r K b) (.inl (bd_J K, 24, .inr (.inl (fun j => lN (f j))))) = bd_e K E (va_up z b ((z b).1, (z b).2.1, f)) := by
  funext q
  by_cases hq : q = bd_r K b
  · subst hq
    rw [va_up_self, bd_eR hy h, va_up_self]
  · rw [va_up_ne _ _ hq]
    unfold bd_e
    by_cases h1 : q ∈ bd_N K
    · rw [if_pos h1, if_pos h1]
      by_cases h3 : q = b
      · subst h3
        rw [va_up_self]
      · rw [va_up_ne _ _ h3]
    · rw [if_neg h1, if_neg h1]
      by_cases h2 : bd_w K q ∈ bd_N K ∧ bd_r K (bd_w K q) = q
      · rw [if_pos h2, if_pos h2]
        have h3 : bd_w K q ≠ b := fun e => hq (by rw [← h2.2, e])
        rw [va_up_ne _ _ h3]
      · rw [if_neg h2, if_neg h2]
/-- what is neither a number nor a row of one -/
def bd_o (K : Cxt) (b : Nat) : Prop := b ∉ bd_N K ∧ ¬ (bd_w K b ∈ bd_N K ∧ bd_r K (bd_w K b) = b)
theorem bd_e0 {K : Cxt} {E : Nat → va_E} {z : Nat → Wh} {b : Nat} (h : bd_o K b) : bd_e K E z b = E b := by
  unfold bd_e
  rw [if_neg h.1, if_neg h.2]
theorem bd_u0 {K : Cxt} {E : Nat → va_E} {z : Nat → Wh} {b : Nat} (h : bd_o K b) (x : va_E) : va_up (bd_e K E z) b x = bd_e K (va_up E b x) z := by
  funext q
  by_cases hq : q = b
  · subst hq
    rw [va_up_self, bd_e0 h, va_up_self]
  · rw [va_up_ne _ _ hq]
    unfold bd_e
    rw [va_up_ne _ _ hq]
/-- what the nest's classes link of each other (private members): no words of a method, so they go with the state -/
def bd_nl : List Cond := [.fieldLinkNest "BallDesk$Division" 48 "BallDesk$Whole" "row" "[J" "BallDesk", .fieldLinkNest "BallDesk$Division" 59 "BallDesk$Whole" "sign" "I" "BallDesk", .methodLinkNest "BallDesk" 9 yX3_init "BallDesk", .methodLinkNest "BallDesk" 22 yX0_init "BallDesk", .methodLinkNest "BallDesk$Ball" 9 yX3_init "BallDesk", .methodLinkNest "BallDesk" 44 yX1_init "BallDesk", .methodLinkNest "BallDesk$Fine" 9 yX3_init "BallDesk", .methodLinkNest "BallDesk$Fine" 18 yX1_init "BallDesk"]
def bd_Ns (U : State) : Prop := ∀ w, w ∈ bd_nl → va_Nw w U
theorem bd_nlt : ∀ w, w ∈ bd_nl → w.onTables = true := by decide +kernel
theorem bd_Ns.warm {s U : State} (hW : s.WarmedH U.vm) (h : bd_Ns s) : bd_Ns U := by
  intro w hw
  have h1 := h w hw
  unfold bd_nl at hw
  simp only [List.mem_cons, List.not_mem_nil, or_false] at hw
  rcases hw with rfl | rfl | rfl | rfl | rfl | rfl | rfl | rfl
  · exact va_Nw.warmF hW h1
  · exact va_Nw.warmF hW h1
  · exact va_Nw.warmM hW h1
  · exact va_Nw.warmM hW h1
  · exact va_Nw.warmM hW h1
  · exact va_Nw.warmM hW h1
  · exact va_Nw.warmM hW h1
  · exact va_Nw.warmM hW h1
/-- the world within a method -/
def bd_W (K : Cxt) (E : Nat → va_E) (z : Nat → Wh) (A : Nat → Prop) (H0 H : Heap) (locs : List Loc) : Prop :=
  va_P (bd_D K) vwCl (va_pl (bd_L K) (bd_e K E z)) H ∧ va_D A (va_pl (bd_L K) (bd_e K E z)) ∧ va_S A H0 H locs
/-- the method that is walked -/
def bd_C (p : Program) (s : State) (m : MethodId) (args : Array Value) (c : Code) (cc : ByteArray) (nL : Nat) (Ts : List Cond) (own : String) (K : Cxt) : Prop :=
  p.tables.exec = Jvm.exec ∧ c.code = cc ∧ c.maxLocals = nL ∧ s.vm.findClass own = some m.cls ∧ (∀ w ∈ Ts, w.before args s = true) ∧ va_K (bd_D K) vwCl (bd_t K) s ∧ bd_y K ∧ bd_Ns s
/-- what a method may write -/
def bd_A (K : Cxt) (sz : Nat) : Nat → Prop := fun q => q ∈ bd_L K ∨ sz ≤ q
/-- a method's start, its end -/
def bd_P (K : Cxt) (E : Nat → va_E) (z : Nat → Wh) (sz : Nat) (U : State) : Prop :=
  U.heap.size = sz ∧ va_P (bd_D K) vwCl (va_pl (bd_L K) (bd_e K E z)) U.heap ∧ va_K (bd_D K) vwCl (bd_t K) U ∧ va_D (fun _ => True) (va_pl (bd_L K) (bd_e K E z)) ∧ bd_y K ∧ bd_Ns U
def bd_B (K : Cxt) (u : (Nat → va_E) × (Nat → Wh)) (t : State) : Prop :=
  va_P (bd_D K) vwCl (va_pl (bd_L K) (bd_e K u.1 u.2)) t.heap ∧ va_K (bd_D K) vwCl (bd_t K) t ∧ va_D (fun _ => True) (va_pl (bd_L K) (bd_e K u.1 u.2))
theorem bd_inL {K : Cxt} {f : Nat → va_E} {sz k : Nat} {q : Nat × va_E} (h : (va_pl (bd_L K) f)[k]? = some q) : bd_A K sz q.1 := by
  left
  have h1 : q ∈ va_pl (bd_L K) f := List.mem_of_getElem? h
  obtain ⟨a, ha, rfl⟩ := List.mem_map.mp h1
  exact ha
theorem bd_blind {K : Cxt} {E : Nat → va_E} {z : Nat → Wh} {sz : Nat} {av : List Value} : FrameBlind (va_Pc av (bd_P K E z sz)) := fun a U g mk q => by
  obtain ⟨q0, q1, qP, qK, qD, qy, qn⟩ := q
  exact ⟨q0, q1, qP, va_K.moved (u := U) (U := U.calling g mk a) (Vm.Alike.refl U.vm) qK, qD, qy, fun w hw => va_Nw.same (u := U) (U := U.calling g mk a) (bd_nlt w hw) rfl (qn w hw)⟩
theorem bd_upd (f : Nat → Nat) (i x : Nat) : vp_updL (fun j => lN (f j)) i (lN x) = fun j => lN (va_up f i x j) := by
  funext j
  simp only [vp_updL, va_up]
  split <;> rfl
section BDR
variable {p : Program} {l : Launch} {e : Env} {R : Room} {s : State} {m : MethodId} {args : Array Value} {below : List Frame} {meth : Method} {c : Code} {H : Heap} {locs : List Loc} {cells slots : Nat} {Q : State → Prop}
variable {cc : ByteArray} {pc nL : Nat} {ls : Array Slot} {rest : List Value} {K : Cxt} {E : Nat → va_E} {z : Nat → Wh} {A : Nat → Prop} {a : Nat} {Ts : List Cond} {H0 : Heap} {own : String}
theorem bd_set {b q0 : Nat} {x : va_E} {E' : Nat → va_E} {z' : Nat → Wh} {H1 : Heap} {locs1 : List Loc} (hD : va_D A (va_pl (bd_L K) (bd_e K E z))) (hb : b ∈ bd_L K) (hq : (va_pl (bd_L K) (bd_e K E z))[q0]? = some (b, bd_e K E z b)) (he : va_up (bd_e K E z) b x = bd_e K E' z')
    (h1 : va_P (bd_D K) vwCl ((va_pl (bd_L K) (bd_e K E z)).set q0 (b, x)) H1) (h2 : va_D A ((va_pl (bd_L K) (bd_e K E z)).set q0 (b, x))) (h3 : va_S A H0 H1 locs1) : bd_W K E' z' A H0 H1 locs1 := by
  have h4 : (va_pl (bd_L K) (bd_e K E z)).set q0 (b, x) = va_pl (bd_L K) (bd_e K E' z') := by
    rw [← he]
    exact va_pl_set (X := []) hD hb hq
  rw [h4] at h1 h2
  exact ⟨h1, h2, h3⟩
theorem bd_gsz (C : bd_C p s m args c cc nL Ts own K) (hi : ∀ w ∈ wsX30, w ∈ Ts) (hw : bd_W K E z A H0 H locs) (ha : a ∈ bd_N K) {n : Nat} {g : Int32} {f : Nat → Nat} (hz : z a = (n, g, f)) {ix : Nat} (hd : decode cc pc = .ok (.getfield ix, 3)) (hl : Cond.fieldLink own ix "BallDesk$Whole" "size" "I" ∈ Ts)
    (kk : W p l e R s m args below meth c H locs cells slots Q (F0 m (pc + 3) ls (.int (nI n) :: rest))) : W p l e R s m args below meth c H locs cells slots Q (F0 m pc ls (.ref a :: rest)) := by
  obtain ⟨hx, hb, -, hown, hts, hK, hy, hNs⟩ := C
  obtain ⟨q0, hq⟩ := va_pl_get (X := []) (f := bd_e K E z) (hy a ha).1
  rw [bd_eW ha, hz] at hq
  exact va_get (D := bd_D K) (C := RX3) (T := TX3) (N := 3) (ci := 3) (v := .int (nI n)) hx hb hts hi hown hK hw.1 q0 hq rfl 1 (by decide) (hts _ hl) (fun _ h => h) rfl hd kk
theorem bd_gsg (C : bd_C p s m args c cc nL Ts own K) (hi : ∀ w ∈ wsX30, w ∈ Ts) (hw : bd_W K E z A H0 H locs) (ha : a ∈ bd_N K) {n : Nat} {g : Int32} {f : Nat → Nat} (hz : z a = (n, g, f)) {ix : Nat} (hd : decode cc pc = .ok (.getfield ix, 3)) (hl : Cond.fieldLink own ix "BallDesk$Whole" "sign" "I" ∈ Ts)
    (kk : W p l e R s m args below meth c H locs cells slots Q (F0 m (pc + 3) ls (.int g :: rest))) : W p l e R s m args below meth c H locs cells slots Q (F0 m pc ls (.ref a :: rest)) := by
  obtain ⟨hx, hb, -, hown, hts, hK, hy, hNs⟩ := C
  obtain ⟨q0, hq⟩ := va_pl_get (X := []) (f := bd_e K E z) (hy a ha).1
  rw [bd_eW ha, hz] at hq
  exact va_get (D := bd_D K) (C := RX3) (T := TX3) (N := 3) (ci := 3) (v := .int g) hx hb hts hi hown hK hw.1 q0 hq rfl 2 (by decide) (hts _ hl) (fun _ h => h) rfl hd kk
theorem bd_gsgN (C : bd_C p s m args c cc nL Ts own K) (hi : ∀ w ∈ wsX30, w ∈ Ts) (hw : bd_W K E z A H0 H locs) (ha : a ∈ bd_N K) {n : Nat} {g : Int32} {f : Nat → Nat} (hz : z a = (n, g, f)) {ix : Nat} {host : String} (hd : decode cc pc = .ok (.getfield ix, 3)) (hl : Cond.fieldLinkNest own ix "BallDesk$Whole" "sign" "I" host ∈ bd_nl)
    (kk : W p l e R s m args below meth c H locs cells slots Q (F0 m (pc + 3) ls (.int g :: rest))) : W p l e R s m args below meth c H locs cells slots Q (F0 m pc ls (.ref a :: rest)) := by
  obtain ⟨hx, hb, -, hown, hts, hK, hy, hNs⟩ := C
  obtain ⟨q0, hq⟩ := va_pl_get (X := []) (f := bd_e K E z) (hy a ha).1
  rw [bd_eW ha, hz] at hq
  exact va_getN (D := bd_D K) (C := RX3) (T := TX3) (N := 3) (ci := 3) (v := .int g) hx hb hts hi hown hK hw.1 q0 hq rfl 2 (by decide) ((hNs _ hl).use (bd_nlt _ hl)) (fun _ h => h) rfl hd kk
theorem bd_grw (C : bd_C p s m args c cc nL Ts own K) (hi : ∀ w ∈ wsX30, w ∈ Ts) (hw : bd_W K E z A H0 H locs) (ha : a ∈ bd_N K) {n : Nat} {g : Int32} {f : Nat → Nat} (hz : z a = (n, g, f)) {ix : Nat} (hd : decode cc pc = .ok (.getfield ix, 3)) (hl : Cond.fieldLink own ix "BallDesk$Whole" "row" "[J" ∈ Ts)
    (kk : W p l e R s m args below meth c H locs cells slots Q (F0 m (pc + 3) ls (.ref (bd_r K a) :: rest))) : W p l e R s m args below meth c H locs cells slots Q (F0 m pc ls (.ref a :: rest)) := by
  obtain ⟨hx, hb, -, hown, hts, hK, hy, hNs⟩ := C
  obtain ⟨q0, hq⟩ := va_pl_get (X := []) (f := bd_e K E z) (hy a ha).1
  rw [bd_eW ha, hz] at hq
  exact va_get (D := bd_D K) (C := RX3) (T := TX3) (N := 3) (ci := 3) (v := .ref (bd_r K a)) hx hb hts hi hown hK hw.1 q0 hq rfl 0 (by decide) (hts _ hl) (fun _ h => h) rfl hd kk
theorem bd_grwN (C : bd_C p s m args c cc nL Ts own K) (hi : ∀ w ∈ wsX30, w ∈ Ts) (hw : bd_W K E z A H0 H locs) (ha : a ∈ bd_N K) {n : Nat} {g : Int32} {f : Nat → Nat} (hz : z a = (n, g, f)) {ix : Nat} {host : String} (hd : decode cc pc = .ok (.getfield ix, 3)) (hl : Cond.fieldLinkNest own ix "BallDesk$Whole" "row" "[J" host ∈ bd_nl)
    (kk : W p l e R s m args below meth c H locs cells slots Q (F0 m (pc + 3) ls (.ref (bd_r K a) :: rest))) : W p l e R s m args below meth c H locs cells slots Q (F0 m pc ls (.ref a :: rest)) := by
  obtain ⟨hx, hb, -, hown, hts, hK, hy, hNs⟩ := C
  obtain ⟨q0, hq⟩ := va_pl_get (X := []) (f := bd_e K E z) (hy a ha).1
  rw [bd_eW ha, hz] at hq
  exact va_getN (D := bd_D K) (C := RX3) (T := TX3) (N := 3) (ci := 3) (v := .ref (bd_r K a)) hx hb hts hi hown hK hw.1 q0 hq rfl 0 (by decide) ((hNs _ hl).use (bd_nlt _ hl)) (fun _ h => h) rfl hd kk
theorem bd_psz (C : bd_C p s m args c cc nL Ts own K) (hi : ∀ w ∈ wsX30, w ∈ Ts) (hw : bd_W K E z A H0 H locs) (ha : a ∈ bd_N K) {n : Nat} {g : Int32} {f : Nat → Nat} (hz : z a = (n, g, f)) {ix : Nat} (hd : decode cc pc = .ok (.putfield ix, 3)) (hl : Cond.fieldLink own ix "BallDesk$Whole" "size" "I" ∈ Ts) {n1 : Nat}
    (kk : ∀ (z1 : Nat → Wh) (H1 : Heap) (locs1 : List Loc), z1 a = (n1, g, f) → (∀ b, b ≠ a → z1 b = z b) → bd_W K E z1 A H0 H1 locs1 → W p l e R s m args below meth c H1 locs1 cells slots Q (F0 m (pc + 3) ls rest)) : W p l e R s m args below meth c H locs cells slots Q (F0 m pc ls (.int (nI n1) :: .ref a :: rest)) := by
  obtain ⟨hx, hb, -, hown, hts, hK, hy, hNs⟩ := C
  obtain ⟨q0, hq0⟩ := va_pl_get (X := []) (f := bd_e K E z) (hy a ha).1
  have hq := hq0
  rw [bd_eW ha, hz] at hq
  have hu := bd_uW (E := E) (z := z) ha n1 g
  rw [hz] at hu
  exact va_put (D := bd_D K) (C := RX3) (T := TX3) (N := 3) (ci := 3) (ty := .int) (v := .int (nI n1)) hx hb hts hi tyX3 tyX3_ok nmX3 hown hK hw.1 hw.2.1 hw.2.2 q0 hq rfl 1 (by decide) (hts _ hl) (fun _ h => h) rfl (by decide +kernel) rfl rfl (Nat.le_of_ble_eq_true rfl) hd (fun H1 locs1 h1 h2 h3 => kk _ H1 locs1 (va_up_self z a _) (fun b hb => va_up_ne z _ hb) (bd_set hw.2.1 (hy a ha).1 hq0 hu h1 h2 h3))
theorem bd_psg (C : bd_C p s m args c cc nL Ts own K) (hi : ∀ w ∈ wsX30, w ∈ Ts) (hw : bd_W K E z A H0 H locs) (ha : a ∈ bd_N K) {n : Nat} {g : Int32} {f : Nat → Nat} (hz : z a = (n, g, f)) {ix : Nat} (hd : decode cc pc = .ok (.putfield ix, 3)) (hl : Cond.fieldLink own ix "BallDesk$Whole" "sign" "I" ∈ Ts) {g1 : Int32}
    (kk : ∀ (z1 : Nat → Wh) (H1 : Heap) (locs1 : List Loc), z1 a = (n, g1, f) → (∀ b, b ≠ a → z1 b = z b) → bd_W K E z1 A H0 H1 locs1 → W p l e R s m args below meth c H1 locs1 cells slots Q (F0 m (pc + 3) ls rest)) : W p l e R s m args below meth c H locs cells slots Q (F0 m pc ls (.int g1 :: .ref a :: rest)) := by
  obtain ⟨hx, hb, -, hown, hts, hK, hy, hNs⟩ := C
  obtain ⟨q0, hq0⟩ := va_pl_get (X := []) (f := bd_e K E z) (hy a ha).1
  have hq := hq0
  rw [bd_eW ha, hz] at hq
  have hu := bd_uW (E := E) (z := z) ha n g1
  rw [hz] at hu
  exact va_put (D := bd_D K) (C := RX3) (T := TX3) (N := 3) (ci := 3) (ty := .int) (v := .int g1) hx hb hts hi tyX3 tyX3_ok nmX3 hown hK hw.1 hw.2.1 hw.2.2 q0 hq rfl 2 (by decide) (hts _ hl) (fun _ h => h) rfl (by decide +kernel) rfl rfl (Nat.le_of_ble_eq_true rfl) hd (fun H1 locs1 h1 h2 h3 => kk _ H1 locs1 (va_up_self z a _) (fun b hb => va_up_ne z _ hb) (bd_set hw.2.1 (hy a ha).1 hq0 hu h1 h2 h3))
theorem bd_psgN (C : bd_C p s m args c cc nL Ts own K) (hi : ∀ w ∈ wsX30, w ∈ Ts) (hw : bd_W K E z A H0 H locs) (ha : a ∈ bd_N K) {n : Nat} {g : Int32} {f : Nat → Nat} (hz : z a = (n, g, f)) {ix : Nat} {host : String} (hd : decode cc pc = .ok (.putfield ix, 3)) (hl : Cond.fieldLinkNest own ix "BallDesk$Whole" "sign" "I" host ∈ bd_nl) {g1 : Int32}
    (kk : ∀ (z1 : Nat → Wh) (H1 : Heap) (locs1 : List Loc), z1 a = (n, g1, f) → (∀ b, b ≠ a → z1 b = z b) → bd_W K E z1 A H0 H1 locs1 → W p l e R s m args below meth c H1 locs1 cells slots Q (F0 m (pc + 3) ls rest)) : W p l e R s m args below meth c H locs cells slots Q (F0 m pc ls (.int g1 :: .ref a :: rest)) := by
  obtain ⟨hx, hb, -, hown, hts, hK, hy, hNs⟩ := C
  obtain ⟨q0, hq0⟩ := va_pl_get (X := []) (f := bd_e K E z) (hy a ha).1
  have hq := hq0
  rw [bd_eW ha, hz] at hq
  have hu := bd_uW (E := E) (z := z) ha n g1
  rw [hz] at hu
  exact va_putN (D := bd_D K) (C := RX3) (T := TX3) (N := 3) (ci := 3) (ty := .int) (v := .int g1) hx hb hts hi tyX3 tyX3_ok nmX3 hown hK hw.1 hw.2.1 hw.2.2 q0 hq rfl 2 (by decide) ((hNs _ hl).use (bd_nlt _ hl)) (fun _ h => h) rfl (by decide +kernel) rfl rfl (Nat.le_of_ble_eq_true rfl) hd (fun H1 locs1 h1 h2 h3 => kk _ H1 locs1 (va_up_self z a _) (fun b hb => va_up_ne z _ hb) (bd_set hw.2.1 (hy a ha).1 hq0 hu h1 h2 h3))
theorem bd_ald (C : bd_C p s m args c cc nL Ts own K) (hw : bd_W K E z A H0 H locs) (ha : a ∈ bd_N K) {n : Nat} {g : Int32} {f : Nat → Nat} (hz : z a = (n, g, f)) {i : Nat} (hd : decode cc pc = .ok (.laload, 1)) (hin : i < 24)
    (kk : W p l e R s m args below meth c H locs cells slots Q (F0 m (pc + 1) ls (.long (lN (f i)) :: rest))) : W p l e R s m args below meth c H locs cells slots Q (F0 m pc ls (.int (nI i) :: .ref (bd_r K a) :: rest)) := by
  obtain ⟨hx, hb, -, hown, hts, hK, hy, hNs⟩ := C
  obtain ⟨q0, hq⟩ := va_pl_get (X := []) (f := bd_e K E z) (hy a ha).2.1
  rw [bd_eR hy ha, hz] at hq
  have h9 := va_lald (m := m) (args := args) (l := l) (e := e) (R := R) (below := below) (meth := meth) (locs := locs) (cells := cells) (slots := slots) (Q := Q) (ls := ls) (rest := rest) (D := bd_D K) hx hb hK hw.1 q0 1 hq rfl (vp_in_nI (n := i) hin (by decide)) hd
  rw [nI_clamp (by omega)] at h9
  exact h9 kk
theorem bd_ast (C : bd_C p s m args c cc nL Ts own K) (hw : bd_W K E z A H0 H locs) (ha : a ∈ bd_N K) {n : Nat} {g : Int32} {f : Nat → Nat} (hz : z a = (n, g, f)) {i x : Nat} (hd : decode cc pc = .ok (.lastore, 1)) (hin : i < 24)
    (kk : ∀ (z1 : Nat → Wh) (H1 : Heap) (locs1 : List Loc), z1 a = (n, g, va_up f i x) → (∀ b, b ≠ a → z1 b = z b) → bd_W K E z1 A H0 H1 locs1 → W p l e R s m args below meth c H1 locs1 cells slots Q (F0 m (pc + 1) ls rest)) : W p l e R s m args below meth c H locs cells slots Q (F0 m pc ls (.long (lN x) :: .int (nI i) :: .ref (bd_r K a) :: rest)) := by
  obtain ⟨hx, hb, -, hown, hts, hK, hy, hNs⟩ := C
  obtain ⟨q0, hq0⟩ := va_pl_get (X := []) (f := bd_e K E z) (hy a ha).2.1
  have hq := hq0
  rw [bd_eR hy ha, hz] at hq
  have hu := bd_uR (E := E) (z := z) hy ha (va_up f i x)
  rw [hz] at hu
  have h9 := va_last (m := m) (args := args) (l := l) (e := e) (R := R) (below := below) (meth := meth) (cells := cells) (slots := slots) (Q := Q) (ls := ls) (rest := rest) (x := lN x) (D := bd_D K) hx hb hK hw.1 hw.2.1 hw.2.2 q0 1 hq rfl (vp_in_nI (n := i) hin (by decide)) hd
  rw [nI_clamp (by omega), bd_upd] at h9
  exact h9 (fun H1 locs1 h1 h2 h3 => kk _ H1 locs1 (va_up_self z a _) (fun b hb => va_up_ne z _ hb) (bd_set hw.2.1 (hy a ha).2.1 hq0 hu h1 h2 h3))
theorem bd_recv (C : bd_C p s m args c cc nL Ts own K) (hw : bd_W K E z A H0 H locs) (ha : a ∈ bd_N K) : ∃ cell : Cell, H[a]? = some cell ∧ cell.vm.isStatics = false ∧ s.vm.findClass RX3 = some cell.cls := by
  obtain ⟨hx, hb, -, hown, hts, hK, hy, hNs⟩ := C
  obtain ⟨q0, hq⟩ := va_pl_get (X := []) (f := bd_e K E z) (hy a ha).1
  rw [bd_eW ha] at hq
  exact va_recv hK hw.1 (ci := 3) (q0 := q0) rfl hq
end BDR
