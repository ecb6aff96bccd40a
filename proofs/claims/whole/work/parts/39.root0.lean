/-! ROOTS, pure; methods that answer a number's address -/
def sp_root (v r : Nat) : Prop := r * r ≤ v ∧ v < (r + 1) * (r + 1)
theorem sp_root_ex : ∀ v, ∃ r, sp_root v r
  | 0 => ⟨0, by decide, by decide⟩
  | v + 1 => by
    obtain ⟨r, h1, h2⟩ := sp_root_ex v
    rcases Nat.lt_or_ge (v + 1) ((r + 1) * (r + 1)) with q | q
    · exact ⟨r, by omega, q⟩
    · refine ⟨r + 1, q, ?_⟩
      have h3 : (r + 1) * (r + 1) < (r + 1 + 1) * (r + 1 + 1) := Nat.mul_lt_mul'' (by omega) (by omega)
      omega
theorem sp_root_le {v r k : Nat} (h : sp_root v r) (hk : k * k ≤ v) : k ≤ r := by
  rcases Nat.lt_or_ge r k with q | q
  · have := Nat.mul_le_mul (show r + 1 ≤ k from q) (show r + 1 ≤ k from q)
    have := h.2
    omega
  · exact q
theorem sp_root_uniq {v r k : Nat} (h : sp_root v r) (h2 : sp_root v k) : r = k := Nat.le_antisymm (sp_root_le h2 h.1) (sp_root_le h h2.1)
/-- a guess that isn't below the root: the next one isn't either, is the root if it isn't less, and has half the error -/
theorem sp_newton {v r g : Nat} (h : sp_root v r) (hg : r ≤ g) (h0 : 0 < g) : r ≤ (v / g + g) / 2 ∧ (g ≤ (v / g + g) / 2 → g = r) ∧ (r < g → (((v / g + g) / 2) - r) * 2 ≤ g - r + 1) ∧ ((g - r = 1) → (v / g + g) / 2 = r) := by
  obtain ⟨h1, h2⟩ := h
  have hd1 := Nat.div_mul_le_self v g
  have hd2 : v < g * (v / g + 1) := Nat.lt_mul_div_succ v h0
  obtain ⟨x, rfl⟩ : ∃ x, g = r + x := ⟨g - r, by omega⟩
  generalize v / (r + x) = q at *
  have ha : r ≤ q + x := by
    -- q ≥ r - x
    rcases Nat.lt_or_ge (q + x) r with a | a
    · exfalso
      obtain ⟨y, rfl⟩ : ∃ y, r = q + x + 1 + y := ⟨r - (q + x + 1), by omega⟩
      have e1 : (q + x + 1 + y) * (q + x + 1 + y) = (q + x + 1 + y + x) * (q + 1) + (y * (q + x + 1 + y + x) + x * x) := by
        simp only [Nat.add_mul, Nat.mul_add, Nat.mul_one, Nat.one_mul, Nat.mul_comm, Nat.mul_left_comm]
        omega
      omega
    · exact a
  have hb : q * (r + x) < (r + 1) * (r + 1) := by omega
  have hq2 : q + x ≤ 2 + r ∨ True := Or.inr trivial
  have hc : x = 0 ∨ q ≤ r + 1 := by
    rcases Nat.eq_zero_or_pos x with a | a
    · exact Or.inl a
    · right
      rcases Nat.lt_or_ge (r + 1) q with b | b
      · exfalso
        have := Nat.mul_le_mul (show r + 2 ≤ q from b) (show r + 1 ≤ r + x by omega)
        simp only [Nat.add_mul, Nat.mul_add, Nat.mul_one, Nat.one_mul] at this hb
        omega
      · exact b
  have hd : 0 < x → q ≤ r + 1 ∧ (x = 1 → q ≤ r) ∧ (2 ≤ x → q + 0 ≤ r + 1) := fun a => by
    have hq : q ≤ r + 1 := hc.elim (fun b => absurd b (by omega)) id
    refine ⟨hq, fun b => ?_, fun _ => hq⟩
    subst b
    rcases Nat.lt_or_ge r q with c | c
    · have := Nat.mul_le_mul (show r + 1 ≤ q from c) (Nat.le_refl (r + 1))
      omega
    · exact c
  refine ⟨by omega, fun hn => ?_, ?_, fun hn => ?_⟩
  · -- g ≤ next: g ≤ q, so g g ≤ v
    have h5 : r + x ≤ q := by omega
    have h6 := Nat.mul_le_mul h5 (Nat.le_refl (r + x))
    have h7 : (r + x) * (r + x) ≤ v := by omega
    rcases Nat.eq_zero_or_pos x with a | a
    · omega
    · exfalso
      have := Nat.mul_le_mul (show r + 1 ≤ r + x by omega) (show r + 1 ≤ r + x by omega)
      omega
  · intro a
    have := (hd (by omega)).1
    omega
  · have h9 : x = 1 := by omega
    have := (hd (by omega)).2.1 h9
    omega
section BDRef
variable {p : Program} {l : Launch} {e : Env} {R : Room} {s : State} {m : MethodId} {args : Array Value} {below : List Frame} {meth : Method} {c : Code} {H : Heap} {locs : List Loc} {cells slots : Nat} {Q : State → Prop}
variable {cc : ByteArray} {pc nL sz : Nat} {ls : Array Slot} {rest : List Value} {K : Cxt} {E : Nat → va_E} {z : Nat → Wh} {Ts : List Cond} {own : String}
theorem bd_aret {post : bd_U → Prop} {v : Nat} {nm : String} (C : bd_C p s m args c cc nL Ts own K) (hr : meth.sig.returnType = some (.object nm)) (hlk : meth.locks = false) (hw : bd_W K E z (bd_A K sz) s.heap H locs) (hd : decode cc pc = .ok (.areturn, 1)) (hp : post (E, z)) :
    W p l e R s m args below meth c H locs cells slots (MQ below (va_Qr post (fun u a t => bd_B K u t ∧ a = v) (bd_A K sz)) args s cells slots (bd_A K sz)) (F0 m pc ls [.ref v]) := by
  obtain ⟨hx, hb, -, hown, hts, hK, hy, hNs⟩ := C
  exact W.aret hx hb hr (Or.inl ⟨nm, rfl⟩) (Or.inr ⟨v, rfl⟩) (fun t ht hW => ⟨⟨(E, z), v, rfl, hp, ⟨by rw [ht]; exact hw.1, va_K.moved hW.alike hK, ⟨hw.2.1.1, fun _ _ _ => trivial⟩⟩, rfl⟩, hw.2.2.F ht⟩) hw.2.2.2.2 hd (hlocks := hlk)
variable {y : MethodName} {ws : List Cond} {rm : Room} {bytes : ByteArray} {maxL n ix b v : Nat} {ret : Option FieldType} {As st0 : List Value} {Cn : String}
theorem bd_cr {post : bd_U → Prop} (C : bd_C p s m args c cc nL Ts own K) (hM : Met l y ws rm (va_Pc (.ref b :: As) (bd_P K E z H.size)) (va_Qr post (fun u a t => bd_B K u t ∧ a = v) (bd_A K H.size)) 0 0 (bd_A K H.size)) (cw : CallW R s args own Cn ix y bytes maxL ret ws rm 0 0 n) (hsz : s.heap.size = sz) (hw : bd_W K E z (bd_A K sz) s.heap H locs) (hrv : ∃ cell : Cell, H[b]? = some cell ∧ cell.vm.isStatics = false ∧ s.vm.findClass Cn = some cell.cls) (hd : decode cc pc = .ok (.invokevirtual ix, 3)) (hn : As.length = n) (hls : ls.size = nL) (hst : st0 = As.reverse ++ .ref b :: rest) (hr8 : (rest.map fun v => v.category).sum ≤ 8) (hc : cells ≤ R.cells ∧ slots ≤ R.slots)
    (kk : ∀ (E1 : Nat → va_E) (z1 : Nat → Wh) (H1 : Heap) (locs1 : List Loc), post (E1, z1) → bd_W K E1 z1 (bd_A K sz) s.heap H1 locs1 → W p l e R s m args below meth c H1 locs1 cells slots Q (F0 m (pc + 3) ls (.ref v :: rest))) : W p l e R s m args below meth c H locs cells slots Q (F0 m pc ls st0) := by
  obtain ⟨hx, hb, hml, hown, hts, hK, hy, hNs⟩ := C
  refine va_callr (va_runV (As := As) (rest := rest) (b := b) ⟨hx, hb, hml, hown, hts⟩ hM cw ⟨bd_blind, hrv, fun U hU hW => ⟨rfl, by rw [hU], by rw [hU]; exact hw.1, va_K.moved hW.alike hK, ⟨hw.2.1.1, fun _ _ _ => trivial⟩, hy, hNs.warm hW⟩⟩ rfl hn hls hst (lv_room hr8) hd hc) hw.2.2 ?_ ?_ ?_
  · intro q hq h
    rcases h with h | h
    · exact Or.inl h
    · exact absurd hq (Nat.not_lt.mpr h)
  · intro q h
    rcases h with h | h
    · exact Or.inl h
    · exact Or.inr (by have := hw.2.2.1; omega)
  · intro u ra t H1 locs1 ht hvm hp hB hz hk hS
    obtain ⟨⟨h1, h2, h3⟩, rfl⟩ := hB
    rw [ht] at h1
    exact kk u.1 u.2 H1 locs1 hp ⟨h1, ⟨h3.1, fun k q h => bd_inL h⟩, hS⟩
end BDRef
