/-! the law's limb -/
theorem lq_in {K : Cxt} {o sz q : Nat} (h : bd_A K sz q) : lq_A K o sz q := by
  rcases h with h | h
  · exact Or.inl h
  · exact Or.inr (Or.inr h)
theorem lq_u (f : Nat → Int64) (x : Int64) : vp_updL f 0 x 0 = x := by
  unfold vp_updL
  rw [if_pos rfl]
theorem lq_cast : (.castable lb_E lb_E : Cond) ∈ lb_B := by decide +kernel
/-- behind the desk's limb: the row out lies as it did -/
theorem lq_behind {K : Cxt} {E E1 : Nat → va_E} {z z1 : Nat → Wh} {o : Nat} {ov : Nat → Int64} {A : Nat → Prop} {H H1 : Heap} (hP : va_P (bd_D K) vwCl (lq_w K E z o ov) H) (hD : va_D A (lq_w K E z o ov)) (h1 : va_P (bd_D K) vwCl (va_pl (bd_L K) (bd_e K E1 z1)) H1) (hk : ∀ q : Nat, q < H.size → ¬ bd_A K H.size q → H1[q]? = H[q]?) : va_P (bd_D K) vwCl (lq_w K E1 z1 o ov) H1 ∧ va_D A (lq_w K E1 z1 o ov) := by
  have hn := lq_n hD
  have ho : o < H.size := (hP 0 _ rfl).lt
  refine ⟨va_P.app ((lq_l hP).kept (fun k q hq => ?_)) h1, lq_d (pl_D (lq_dr hD)) hn (hD.2 0 _ rfl)⟩
  have hz : k < 1 := (List.getElem?_eq_some_iff.mp hq).1
  rw [show k = 0 by omega] at hq
  cases hq
  exact hk o ho (fun h => by
    rcases h with h | h
    · exact hn h
    · omega)
set_option maxHeartbeats 4000000 in
set_option maxRecDepth 100000 in
theorem lw_limbC (l : Launch) (htr : l.stackTraces = false) (K : Cxt) (E0 : Nat → va_E) (z0 : Nat → Wh) (sz sa : Nat) {P : Nat} {a B : Nat → Nat} (hbk : bk_at K E0 P a B) {sg0 : Nat → Int} (hS : sg_S K z0 sg0) {mu ra : Nat → Int} (hiv : bk_iv P B sg0 mu ra) (o : Nat) (ov : Nat → Int64) (k part lb : Int32) : Met l yL_limb wsL_limb ({ frames := 8, cells := 1, slots := 6, locals := 270 }) (va_Pc [.ref (a 0), .int k, .int part, .int lb, .ref o] (lq_P K E0 z0 o ov sz sa)) (va_Qi (lq_post K P a B (dk_limb k part lb mu ra) mu ra) (lq_B K o) (lq_A K o sz)) 1 6 (lq_A K o sz) := by
  refine va_MetW (cc := cL_limb) (maxL := 6) (ret := some .int) (hh := [(0, 11, 14, 13)]) (by decide) rfl ?_
  intro p e s m args below meth c s₁ B9 hml hv
  obtain ⟨rfl, hsz, hP, hK, hD, hy, hNs, hstr, hU, hN, hB⟩ := hv
  have hts : ∀ w ∈ wsL_limb, w.before _ s = true := atoms_spec (ws := wsL_limb) B9.pre
  have htab : c.exceptionTable.toList = [⟨0, 11, 14, 13⟩] := vx_table (x := yL_limb) (hh := [(0, 11, 14, 13)]) B9 (hts (.codeWith yL_limb cL_limb 6 (some .int) [(0, 11, 14, 13)]) List.mem_cons_self)
  have hx := B9.exec
  have hb := B9.bytes
  have hr := B9.returns
  have hlk := B9.notSynchronized
  have hown := findClass_of_methodNamed B9.named
  have hl := lv_entry [.ref (a 0), .int k, .int part, .int lb, .ref o] (n := 6) (Nat.le_of_ble_eq_true rfl)
  rw [lg_entry_eq]
  generalize (lg_sl ([.ref (a 0), .int k, .int part, .int lb, .ref o]) ++ List.replicate (6 - (lg_sl ([.ref (a 0), .int k, .int part, .int lb, .ref o])).length) Slot.unset).toArray = ls at hl ⊢
  have hl : lv_has ls 6 [(0, .ref (a 0)), (1, .int k), (2, .int part), (3, .int lb), (4, .ref o)] := hl
  have hS0 : va_S (lq_A K o sz) s.heap s.heap [] := va_S.rf
  have hDA : va_D (lq_A K o sz) (lq_w K E0 z0 o ov) := lq_d ⟨(lq_dr hD).1, fun k q h => lq_in (bd_inL h)⟩ (lq_n hD) (Or.inr (Or.inl rfl))
  refine lv_aload hx hb dL_limb_0 (lv_at hl 4 rfl) ?_
  refine lv_iconst (v := nI 0) hx hb dL_limb_2 (by decide) ?_
  refine lv_aload_n hx hb dL_limb_3 rfl (lv_at hl 0 rfl) ?_
  refine lv_iload_n hx hb dL_limb_4 rfl (lv_at hl 1 rfl) ?_
  refine lv_iload_n hx hb dL_limb_5 rfl (lv_at hl 2 rfl) ?_
  refine lv_iload_n hx hb dL_limb_6 rfl (lv_at hl 3 rfl) ?_
  have hrv : ∃ cell : Cell, s.heap[a 0]? = some cell ∧ cell.vm.isStatics = false ∧ s.vm.findClass RX4 = some cell.cls := by
    obtain ⟨q0, hq⟩ := va_pl_get (X := lq_o K o ov) (f := bd_e K E0 z0) (hbk.1 0 (by decide)).1
    rw [bd_e0 (hbk.1 0 (by decide)).2, hbk.2.2.2.2.2.1] at hq
    exact va_recv hK hP (ci := 4) (q0 := q0) rfl hq
  refine vx_calll (vx_runV (As := [.int k, .int part, .int lb]) (rest := [.int (nI 0), .ref o]) ⟨hx, hb, hml, hown, hts⟩ (c4_limb l htr K E0 z0 s.heap.size sa hbk hS hiv k part lb) (cwV 3 hts gL_limb_X4_limb rfl rfl rfl (by decide +kernel) ⟨Nat.le_of_ble_eq_true rfl, Nat.le_of_ble_eq_true rfl⟩) ⟨bd_blindX, hrv, fun U hUh hW => ⟨rfl, ⟨by rw [hUh], by rw [hUh]; exact lq_r hP, va_K.moved hW.alike hK, lq_dr hD, hy, hNs.warm hW⟩, vk_R.warm hW hstr, by rw [hUh]; exact vx_Zq.moved hW.alike (hU.narrow (fun q h => by rw [hsz] at h; exact lq_in h)), by rw [hUh]; exact vx_Zq.moved hW.alike (hN.narrow (fun q h => by rw [hsz] at h; exact lq_in h)), hB.warm hW⟩⟩ rfl rfl hl.1 rfl (lv_room (Nat.le_of_ble_eq_true rfl)) dL_limb_7 ⟨Nat.le_of_ble_eq_true rfl, Nat.le_of_ble_eq_true rfl⟩) hS0 (fun q _ h => by rw [hsz] at h; exact lq_in h) (fun q h => by rw [hsz] at h; exact lq_in h) (fun q _ h => by rw [hsz] at h; exact lq_in h) (fun E ce q9 u t H1 locs ht hvm hp hBX hz hk hS1 hce hcv hcl => ?_) (fun r u t H1 locs ht hvm hp hB1 hz hk hS1 => ?_)
  · obtain ⟨hE, h1, -, -⟩ := hBX
    obtain ⟨p1, p2, p3⟩ := hp
    rw [ht] at h1
    subst hE
    have hw := lq_behind hP hDA h1 hk
    refine vy_catch (own := RL) (name := lb_E) (x := ⟨0, 11, 14, 13⟩) hown htab (by decide) (by decide) (hts (.classLink RL 13 lb_E) (by decide +kernel)) (va_Nw.use rfl (hB _ lq_cast)) hce hcv hcl ?_
    refine lv_astore (lv' := [(5, .ref q9), (0, .ref (a 0)), (1, .int k), (2, .int part), (3, .int lb), (4, .ref o)]) hx hb dL_limb_14 hl (by decide) rfl (fun ls hl => ?_)
    refine lv_iconst (v := 1) hx hb dL_limb_16 (by decide) ?_
    exact W.iret (v := 1) hx hb hr (fun t ht hW => ⟨⟨1, (u, ov), rfl, ⟨p2, p3, Or.inr ⟨rfl, p1⟩⟩, by unfold lq_B; rw [ht]; exact hw.1⟩, hS1.F ht⟩) hS1.2.2 dL_limb_17 (hlocks := hlk)
  · obtain ⟨h1, -, -⟩ := hB1
    obtain ⟨p1, p2, p3⟩ := hp
    rw [ht] at h1
    have hw := lq_behind hP hDA h1 hk
    refine va_last hx hb hK hw.1 hw.2 hS1 0 1 rfl rfl (vp_in_nI (n := 0) (by decide) (by decide)) dL_limb_10 (fun H locs hP2 hD2 hS2 => ?_)
    rw [nI_clamp (by decide)] at hP2
    refine lv_goto (tgt := 18) hx hb dL_limb_11 (by decide) ?_
    refine lv_iconst (v := 0) hx hb dL_limb_18 (by decide) ?_
    exact W.iret (v := 0) hx hb hr (fun t ht hW => ⟨⟨0, (u, vp_updL ov 0 r), rfl, ⟨p2, p3, Or.inl ⟨rfl, p1.trans (by show (0, r) = (0, vp_updL ov 0 r 0); rw [lq_u])⟩⟩, by unfold lq_B; rw [ht]; exact hP2⟩, hS2.F ht⟩) hS2.2.2 dL_limb_19 (hlocks := hlk)
