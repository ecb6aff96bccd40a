/-! the law's helpers: cell, limb -/
def lw_c0 (L : Nat) (xs : Nat → Int32) : Int32 := if 0 < L then xs 0 else 0
def lw_Xp (b L : Nat) (xs : Nat → Int32) (sz : Nat) (U : State) : Prop := U.heap.size = sz ∧ va_X b L xs U U.heap ∧ b < U.heap.size
set_option maxHeartbeats 4000000 in
set_option maxRecDepth 100000 in
theorem lw_cell (l : Launch) (b L : Nat) (xs : Nat → Int32) (sz : Nat) (hL : L ≤ 3073) : Met l yL_cell wsL_cell ({ frames := 0, cells := 0, slots := 0, locals := 0 }) (va_Pc [.ref b, .int (nI 0)] (lw_Xp b L xs sz)) (va_Qi (fun r (_ : Unit) => r = lw_c0 L xs) (fun _ _ => True) (fun q => sz ≤ q)) 0 0 (fun q => sz ≤ q) := by
  refine Met.ofW (cc := cL_cell) (maxL := 2) (ret := some .int) (by decide) rfl ?_
  intro p e s m args below meth c s₁ B hml hv
  obtain ⟨rfl, hsz, hX, hbl⟩ := hv
  have hx := B.exec
  have hb := B.bytes
  have hr := B.returns
  have hlk := B.notSynchronized
  have hl := lv_entry [.ref b, .int (nI 0)] (n := 2) (Nat.le_of_ble_eq_true rfl)
  rw [lg_entry_eq]
  generalize (lg_sl ([.ref b, .int (nI 0)]) ++ List.replicate (2 - (lg_sl ([.ref b, .int (nI 0)])).length) Slot.unset).toArray = ls at hl ⊢
  have hl : lv_has ls 2 [(0, .ref b), (1, .int (nI 0))] := hl
  have hS : va_S (fun q => sz ≤ q) s.heap s.heap [] := va_S.rf
  have hbA : ¬ sz ≤ b := by rw [← hsz]; exact Nat.not_le.mpr hbl
  refine lv_iload_n hx hb dL_cell_0 rfl (lv_at hl 1 rfl) ?_
  refine lv_aload_n hx hb dL_cell_1 rfl (lv_at hl 0 rfl) ?_
  refine va_slen (A := fun q => sz ≤ q) hx hb hX hbl hbA hS dL_cell_2 ?_
  refine bd_ige (a := 0) (b := L) (tgt := 12) (by decide) (by omega) hx hb dL_cell_3 (by decide) (fun hc => ?_) (fun hc => ?_)
  · refine lv_iconst (v := 0) hx hb dL_cell_12 (by decide) ?_
    exact W.iret (v := 0) hx hb hr (fun t ht hW => ⟨⟨0, (), rfl, by unfold lw_c0; rw [if_neg (by omega)], trivial⟩, hS.F ht⟩) hS.2.2 dL_cell_13 (hlocks := hlk)
  · refine lv_aload_n hx hb dL_cell_6 rfl (lv_at hl 0 rfl) ?_
    refine lv_iload_n hx hb dL_cell_7 rfl (lv_at hl 1 rfl) ?_
    refine va_sld (A := fun q => sz ≤ q) hx hb hX hbl hbA hS (vp_in_nI (n := 0) hc (by omega)) dL_cell_8 ?_
    rw [nI_clamp (by decide)]
    refine lv_goto (tgt := 13) hx hb dL_cell_9 (by decide) ?_
    exact W.iret (v := xs 0) hx hb hr (fun t ht hW => ⟨⟨xs 0, (), rfl, by unfold lw_c0; rw [if_pos hc], trivial⟩, hS.F ht⟩) hS.2.2 dL_cell_13 (hlocks := hlk)
/-- the world of the law's limb: the desk's, and the row out -/
abbrev lq_o (K : Cxt) (o : Nat) (ov : Nat → Int64) : va_W := [(o, .inl (bd_J K, 1, .inr (.inl ov)))]
abbrev lq_w (K : Cxt) (E : Nat → va_E) (z : Nat → Wh) (o : Nat) (ov : Nat → Int64) : va_W := lq_o K o ov ++ va_pl (bd_L K) (bd_e K E z)
def lq_A (K : Cxt) (o sz : Nat) : Nat → Prop := fun q => q ∈ bd_L K ∨ q = o ∨ sz ≤ q
def lq_P (K : Cxt) (E : Nat → va_E) (z : Nat → Wh) (o : Nat) (ov : Nat → Int64) (sz sa : Nat) (U : State) : Prop := U.heap.size = sz ∧ va_P (bd_D K) vwCl (lq_w K E z o ov) U.heap ∧ va_K (bd_D K) vwCl (bd_t K) U ∧ va_D (fun _ => True) (lq_w K E z o ov) ∧ bd_y K ∧ bd_Ns U ∧ vk_R RX4 195 "no such limb" sa U ∧ vx_Zq Bundle.tN "UNASSIGNED_STACK" Bundle.steD (lq_A K o sz) U U.heap ∧ vx_Zq Bundle.tN "SUPPRESSED_SENTINEL" Bundle.listD (lq_A K o sz) U U.heap ∧ lb_Ns U
abbrev lq_U : Type := bd_U × (Nat → Int64)
def lq_B (K : Cxt) (o : Nat) (u : lq_U) (t : State) : Prop := va_P (bd_D K) vwCl (lq_w K u.1.1 u.1.2 o u.2) t.heap
def lq_post (K : Cxt) (P : Nat) (a B : Nat → Nat) (t : Int32 × Int64) (mu ra : Nat → Int) (r : Int32) (u : lq_U) : Prop := bk_at K u.1.1 P a B ∧ (∃ sg : Nat → Int, sg_S K u.1.2 sg ∧ bk_iv P B sg mu ra) ∧ ((r = 0 ∧ t = (0, u.2 0)) ∨ (r = 1 ∧ t.1 = 1))
theorem lq_blind {K : Cxt} {E : Nat → va_E} {z : Nat → Wh} {o sz sa : Nat} {ov : Nat → Int64} {av : List Value} : FrameBlind (va_Pc av (lq_P K E z o ov sz sa)) := fun a U g mk q => by
  obtain ⟨q0, q1, qP, qK, qD, qy, qn, q3, q4, q5, q6⟩ := q
  exact ⟨q0, q1, qP, va_K.moved (u := U) (U := U.calling g mk a) (Vm.Alike.refl U.vm) qK, qD, qy, fun w hw => va_Nw.same (u := U) (U := U.calling g mk a) (bd_nlt w hw) rfl (qn w hw), vk_R.same (u := U) (U := U.calling g mk a) rfl q3, vx_Zq.moved (u := U) (U := U.calling g mk a) (Vm.Alike.refl U.vm) q4, vx_Zq.moved (u := U) (U := U.calling g mk a) (Vm.Alike.refl U.vm) q5, fun w hw => va_Nw.same (u := U) (U := U.calling g mk a) (lb_ot w hw) rfl (q6 w hw)⟩
theorem bd_blindX {K : Cxt} {E : Nat → va_E} {z : Nat → Wh} {sz sa : Nat} {av : List Value} : FrameBlind (va_Pc av (bd_PX K E z sz sa)) := fun a U g mk q => by
  obtain ⟨q0, ⟨q1, qP, qK, qD, qy, qn⟩, q3, q4, q5, q6⟩ := q
  exact ⟨q0, ⟨q1, qP, va_K.moved (u := U) (U := U.calling g mk a) (Vm.Alike.refl U.vm) qK, qD, qy, fun w hw => va_Nw.same (u := U) (U := U.calling g mk a) (bd_nlt w hw) rfl (qn w hw)⟩, vk_R.same (u := U) (U := U.calling g mk a) rfl q3, vx_Zq.moved (u := U) (U := U.calling g mk a) (Vm.Alike.refl U.vm) q4, vx_Zq.moved (u := U) (U := U.calling g mk a) (Vm.Alike.refl U.vm) q5, fun w hw => va_Nw.same (u := U) (U := U.calling g mk a) (lb_ot w hw) rfl (q6 w hw)⟩
theorem lq_l {D : va_G} {cl : List vw_C} {X Y : va_W} {H : Heap} (h : va_P D cl (X ++ Y) H) : va_P D cl X H := fun k q hk => h k q (by rw [List.getElem?_append_left (List.getElem?_eq_some_iff.mp hk).1]; exact hk)
theorem lq_r {D : va_G} {cl : List vw_C} {X Y : va_W} {H : Heap} (h : va_P D cl (X ++ Y) H) : va_P D cl Y H := fun k q hk => h (X.length + k) q (by rw [List.getElem?_append_right (by omega), Nat.add_sub_cancel_left]; exact hk)
theorem lq_dr {A : Nat → Prop} {X Y : va_W} (h : va_D A (X ++ Y)) : va_D A Y := by
  have e : ∀ k, (X ++ Y)[X.length + k]? = Y[k]? := fun k => by rw [List.getElem?_append_right (by omega), Nat.add_sub_cancel_left]
  exact ⟨fun i j p q h1 h2 h3 => by have := h.1 (X.length + i) (X.length + j) p q (by rw [e]; exact h1) (by rw [e]; exact h2) h3; omega, fun k q hk => h.2 (X.length + k) q (by rw [e]; exact hk)⟩
theorem lq_n {A : Nat → Prop} {K : Cxt} {f : Nat → va_E} {o : Nat} {ov : Nat → Int64} (h : va_D A (lq_o K o ov ++ va_pl (bd_L K) f)) : o ∉ bd_L K := fun q => by
  obtain ⟨k, hk⟩ := va_pl_get (X := []) (f := f) q
  have h2 : (lq_o K o ov ++ va_pl (bd_L K) f)[1 + k]? = some (o, f o) := by
    rw [List.getElem?_append_right (by show 1 ≤ 1 + k; omega), show 1 + k - (lq_o K o ov).length = k by show 1 + k - 1 = k; omega]
    exact hk
  have := h.1 0 (1 + k) (o, _) (o, f o) rfl h2 rfl
  omega
theorem lq_d {A : Nat → Prop} {K : Cxt} {f : Nat → va_E} {o : Nat} {ov : Nat → Int64} (h1 : va_D A (va_pl (bd_L K) f)) (h2 : o ∉ bd_L K) (h3 : A o) : va_D A (lq_o K o ov ++ va_pl (bd_L K) f) := by
  have hc : ∀ (k : Nat) (q : Nat × va_E), (lq_o K o ov ++ va_pl (bd_L K) f)[k]? = some q → (k = 0 ∧ q.1 = o) ∨ ∃ j, k = j + 1 ∧ (va_pl (bd_L K) f)[j]? = some q := by
    intro k q hk
    rcases k with - | j
    · left
      cases hk
      exact ⟨rfl, rfl⟩
    · right
      exact ⟨j, rfl, hk⟩
  have hm : ∀ (j : Nat) (q : Nat × va_E), (va_pl (bd_L K) f)[j]? = some q → q.1 ≠ o := fun j q hq e => h2 (by
    rw [← e]
    obtain ⟨b, hb, hbq⟩ := List.mem_map.mp (List.mem_of_getElem? hq)
    rw [← hbq]
    exact hb)
  refine ⟨fun i j p q hp hq hpq => ?_, fun k q hq => ?_⟩
  · rcases hc i p hp with ⟨rfl, e1⟩ | ⟨i1, rfl, e1⟩
    · rcases hc j q hq with ⟨rfl, e2⟩ | ⟨j1, rfl, e2⟩
      · rfl
      · exact absurd (hpq.symm.trans e1) (hm j1 q e2)
    · rcases hc j q hq with ⟨rfl, e2⟩ | ⟨j1, rfl, e2⟩
      · exact absurd (hpq.trans e2) (hm i1 p e1)
      · rw [h1.1 i1 j1 p q e1 e2 hpq]
  · rcases hc k q hq with ⟨rfl, e1⟩ | ⟨j1, rfl, e1⟩
    · rw [e1]
      exact h3
    · exact h1.2 j1 q e1
