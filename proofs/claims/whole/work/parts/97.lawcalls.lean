/-! the law: its calls (laid by wip/gen/m_law.py) -/
set_option maxHeartbeats 4000000 in
set_option maxRecDepth 100000 in
theorem lw_k_set {p : Program} {l : Launch} {e : Env} {s : State} {m : MethodId} {below : List Frame} {meth : Method} {c : Code} {b L : Nat} {xs : Nat → Int32} {K1 K2 : Cxt} {P : Nat} {a B mo : Nat → Nat} {o i cells slots : Nat} {Q : State → Prop} (X : lw_X p s m c b L xs K1 K2 o) (hi : i + 5 < L) (hc : cells + 1 ≤ 601024) (hs : slots + 6 ≤ 7293000) {mu ra : Nat → Int} {H : Heap} {locs : List Loc} {ls : Array Slot} (hI : lw_I K1 K2 P a B mo o s mu ra H locs) (hl : lv_has ls 8 (lw_lv b a mo o i)) (hN : lw_N p l e s m below meth c b K1 K2 P a B mo o i cells slots Q) : W p l e room_1 s m #[Value.ref b] below meth c H locs cells slots Q (F0 m 140 ls []) := by
  obtain ⟨C1, C2, hX, hbl, hL, hd12, ho1, ho2, hoA⟩ := X
  obtain ⟨E1, z1, sg, E2, z2, th, rg, ov, hbk, hS, hiv, hv, hiv2, hw1, hw2, ho⟩ := hI
  have hx := C1.1
  have hb := C1.2.1
  have hown := C1.2.2.2.1
  have hts := C1.2.2.2.2.1
  have hA : ∀ q, s.heap.size ≤ q → lw_Af s q := fun _ h => h
  have hbA : ¬ lw_Af s b := Nat.not_le.mpr hbl
  have hd21 : ∀ q, q ∈ bd_L K2 → q ∉ bd_L K1 := fun q h2 h1 => hd12 q h1 h2
  have h0 := lv_at hl 0 rfl
  have h4 := lv_at hl 4 rfl
  have hcst : Cond.constantLong RL 27 4294967295 ∈ wsL_law := by decide +kernel
  refine lv_aload_n hx hb dL_law_140 rfl (lv_at hl 1 rfl) ?_
  refine lw_rd (k := 1) hx hb hX hbl hbA hw1.2.2 h0 h4 (by omega) hL (by decide) dL_law_141 dL_law_142 dL_law_144 dL_law_145 dL_law_146 ?_
  refine lw_rdL (own := RL) (k := 2) hx hb hown (hts _ hcst) hX hbl hbA hw1.2.2 h0 h4 (by omega) hL (by decide) (by decide) dL_law_147 dL_law_148 dL_law_150 dL_law_151 dL_law_152 dL_law_153 dL_law_154 dL_law_156 dL_law_157 dL_law_158 dL_law_160 dL_law_161 dL_law_162 dL_law_163 dL_law_164 dL_law_167 dL_law_168 ?_
  refine lw_rdL (own := RL) (k := 4) hx hb hown (hts _ hcst) hX hbl hbA hw1.2.2 h0 h4 (by omega) hL (by decide) (by decide) dL_law_169 dL_law_170 dL_law_172 dL_law_173 dL_law_174 dL_law_175 dL_law_176 dL_law_178 dL_law_179 dL_law_180 dL_law_182 dL_law_183 dL_law_184 dL_law_185 dL_law_186 dL_law_189 dL_law_190 ?_
  refine lw_ci (As := [.int (xs (i + 1)), .long (lw_j (xs (i + 2)) (xs (i + (2 + 1)))), .long (lw_j (xs (i + 4)) (xs (i + (4 + 1))))]) (rest := []) C1 hA (c4_set _ _ _ _ _ hbk hS hiv (xs (i + 1)) (lw_j (xs (i + 2)) (xs (i + (2 + 1)))) (lw_j (xs (i + 4)) (xs (i + (4 + 1))))) (cwV 3 hts gL_law_X4_set rfl rfl rfl (by decide +kernel) ⟨Nat.le_of_ble_eq_true rfl, Nat.le_of_ble_eq_true rfl⟩) hw1 (bk_recv C1 hw1 hbk) dL_law_191 rfl hl.1 rfl (Nat.le_of_ble_eq_true rfl) ⟨Nat.le_of_succ_le hc, Nat.le_trans (Nat.le_add_right _ _) hs⟩ (fun r1 E1 z1 H1 locs1 hp1 hw1 hk1 => ?_)
  have hw2 := lw_keep hw2 hk1 hd21 hw1.2.2
  have ho := lw_keepo ho hk1 ho1
  refine lv_aload_n hx hb dL_law_194 rfl (lv_at hl 2 rfl) ?_
  refine lw_rd (k := 1) hx hb hX hbl hbA hw1.2.2 h0 h4 (by omega) hL (by decide) dL_law_195 dL_law_196 dL_law_198 dL_law_199 dL_law_200 ?_
  refine lw_rdL (own := RL) (k := 2) hx hb hown (hts _ hcst) hX hbl hbA hw1.2.2 h0 h4 (by omega) hL (by decide) (by decide) dL_law_201 dL_law_202 dL_law_204 dL_law_205 dL_law_206 dL_law_207 dL_law_208 dL_law_210 dL_law_211 dL_law_212 dL_law_214 dL_law_215 dL_law_216 dL_law_217 dL_law_218 dL_law_221 dL_law_222 ?_
  refine lw_rdL (own := RL) (k := 4) hx hb hown (hts _ hcst) hX hbl hbA hw1.2.2 h0 h4 (by omega) hL (by decide) (by decide) dL_law_223 dL_law_224 dL_law_226 dL_law_227 dL_law_228 dL_law_229 dL_law_230 dL_law_232 dL_law_233 dL_law_234 dL_law_236 dL_law_237 dL_law_238 dL_law_239 dL_law_240 dL_law_243 dL_law_244 ?_
  refine lw_ci (As := [.int (xs (i + 1)), .long (lw_j (xs (i + 2)) (xs (i + (2 + 1)))), .long (lw_j (xs (i + 4)) (xs (i + (4 + 1))))]) (rest := [.int r1]) C2 hA (v5_set _ _ _ _ _ hv hiv2 (xs (i + 1)) (lw_j (xs (i + 2)) (xs (i + (2 + 1)))) (lw_j (xs (i + 4)) (xs (i + (4 + 1))))) (cwV 3 hts gL_law_X5_set rfl rfl rfl (by decide +kernel) ⟨Nat.le_of_ble_eq_true rfl, Nat.le_of_ble_eq_true rfl⟩) hw2 (mv_recv C2 hw2 hv) dL_law_245 rfl hl.1 rfl (Nat.le_of_ble_eq_true rfl) ⟨Nat.le_of_succ_le hc, Nat.le_trans (Nat.le_add_right _ _) hs⟩ (fun r2 E2 z2 H2 locs2 hp2 hw2 hk2 => ?_)
  have hw1 := lw_keep hw1 hk2 hd12 hw2.2.2
  have ho := lw_keepo ho hk2 ho2
  obtain ⟨hr, hI⟩ := lw_fin hp1 hp2 hw1 hw2 ho
  refine lv_icmp_eq (tgt := 1121) hx hb dL_law_248 (by decide) (fun _ => ?_) (fun h => absurd hr h)
  exact W.widen (Nat.le_add_right _ _) (Nat.le_add_right _ _) (hN _ _ _ _ _ hI hl)
set_option maxHeartbeats 4000000 in
set_option maxRecDepth 100000 in
theorem lw_k_add {p : Program} {l : Launch} {e : Env} {s : State} {m : MethodId} {below : List Frame} {meth : Method} {c : Code} {b L : Nat} {xs : Nat → Int32} {K1 K2 : Cxt} {P : Nat} {a B mo : Nat → Nat} {o i cells slots : Nat} {Q : State → Prop} (X : lw_X p s m c b L xs K1 K2 o) (hi : i + 5 < L) (hc : cells + 1 ≤ 601024) (hs : slots + 6 ≤ 7293000) {mu ra : Nat → Int} {H : Heap} {locs : List Loc} {ls : Array Slot} (hI : lw_I K1 K2 P a B mo o s mu ra H locs) (hl : lv_has ls 8 (lw_lv b a mo o i)) (hN : lw_N p l e s m below meth c b K1 K2 P a B mo o i cells slots Q) : W p l e room_1 s m #[Value.ref b] below meth c H locs cells slots Q (F0 m 253 ls []) := by
  obtain ⟨C1, C2, hX, hbl, hL, hd12, ho1, ho2, hoA⟩ := X
  obtain ⟨E1, z1, sg, E2, z2, th, rg, ov, hbk, hS, hiv, hv, hiv2, hw1, hw2, ho⟩ := hI
  have hx := C1.1
  have hb := C1.2.1
  have hown := C1.2.2.2.1
  have hts := C1.2.2.2.2.1
  have hA : ∀ q, s.heap.size ≤ q → lw_Af s q := fun _ h => h
  have hbA : ¬ lw_Af s b := Nat.not_le.mpr hbl
  have hd21 : ∀ q, q ∈ bd_L K2 → q ∉ bd_L K1 := fun q h2 h1 => hd12 q h1 h2
  have h0 := lv_at hl 0 rfl
  have h4 := lv_at hl 4 rfl
  refine lv_aload_n hx hb dL_law_253 rfl (lv_at hl 1 rfl) ?_
  refine lw_rd (k := 1) hx hb hX hbl hbA hw1.2.2 h0 h4 (by omega) hL (by decide) dL_law_254 dL_law_255 dL_law_257 dL_law_258 dL_law_259 ?_
  refine lw_rd (k := 2) hx hb hX hbl hbA hw1.2.2 h0 h4 (by omega) hL (by decide) dL_law_260 dL_law_261 dL_law_263 dL_law_264 dL_law_265 ?_
  refine lw_rd (k := 3) hx hb hX hbl hbA hw1.2.2 h0 h4 (by omega) hL (by decide) dL_law_266 dL_law_267 dL_law_269 dL_law_270 dL_law_271 ?_
  refine lw_ci (As := [.int (xs (i + 1)), .int (xs (i + 2)), .int (xs (i + 3))]) (rest := []) C1 hA (c4_add _ _ _ _ _ hbk hS hiv (xs (i + 1)) (xs (i + 2)) (xs (i + 3))) (cwV 3 hts gL_law_X4_add rfl rfl rfl (by decide +kernel) ⟨Nat.le_of_ble_eq_true rfl, Nat.le_of_ble_eq_true rfl⟩) hw1 (bk_recv C1 hw1 hbk) dL_law_272 rfl hl.1 rfl (Nat.le_of_ble_eq_true rfl) ⟨Nat.le_of_succ_le hc, Nat.le_trans (Nat.le_add_right _ _) hs⟩ (fun r1 E1 z1 H1 locs1 hp1 hw1 hk1 => ?_)
  have hw2 := lw_keep hw2 hk1 hd21 hw1.2.2
  have ho := lw_keepo ho hk1 ho1
  refine lv_aload_n hx hb dL_law_275 rfl (lv_at hl 2 rfl) ?_
  refine lw_rd (k := 1) hx hb hX hbl hbA hw1.2.2 h0 h4 (by omega) hL (by decide) dL_law_276 dL_law_277 dL_law_279 dL_law_280 dL_law_281 ?_
  refine lw_rd (k := 2) hx hb hX hbl hbA hw1.2.2 h0 h4 (by omega) hL (by decide) dL_law_282 dL_law_283 dL_law_285 dL_law_286 dL_law_287 ?_
  refine lw_rd (k := 3) hx hb hX hbl hbA hw1.2.2 h0 h4 (by omega) hL (by decide) dL_law_288 dL_law_289 dL_law_291 dL_law_292 dL_law_293 ?_
  refine lw_ci (As := [.int (xs (i + 1)), .int (xs (i + 2)), .int (xs (i + 3))]) (rest := [.int r1]) C2 hA (v5_add _ _ _ _ _ hv hiv2 (xs (i + 1)) (xs (i + 2)) (xs (i + 3))) (cwV 3 hts gL_law_X5_add rfl rfl rfl (by decide +kernel) ⟨Nat.le_of_ble_eq_true rfl, Nat.le_of_ble_eq_true rfl⟩) hw2 (mv_recv C2 hw2 hv) dL_law_294 rfl hl.1 rfl (Nat.le_of_ble_eq_true rfl) ⟨Nat.le_of_succ_le hc, Nat.le_trans (Nat.le_add_right _ _) hs⟩ (fun r2 E2 z2 H2 locs2 hp2 hw2 hk2 => ?_)
  have hw1 := lw_keep hw1 hk2 hd12 hw2.2.2
  have ho := lw_keepo ho hk2 ho2
  obtain ⟨hr, hI⟩ := lw_fin hp1 hp2 hw1 hw2 ho
  refine lv_icmp_eq (tgt := 1121) hx hb dL_law_297 (by decide) (fun _ => ?_) (fun h => absurd hr h)
  exact W.widen (Nat.le_add_right _ _) (Nat.le_add_right _ _) (hN _ _ _ _ _ hI hl)
set_option maxHeartbeats 4000000 in
set_option maxRecDepth 100000 in
theorem lw_k_take {p : Program} {l : Launch} {e : Env} {s : State} {m : MethodId} {below : List Frame} {meth : Method} {c : Code} {b L : Nat} {xs : Nat → Int32} {K1 K2 : Cxt} {P : Nat} {a B mo : Nat → Nat} {o i cells slots : Nat} {Q : State → Prop} (X : lw_X p s m c b L xs K1 K2 o) (hi : i + 5 < L) (hc : cells + 1 ≤ 601024) (hs : slots + 6 ≤ 7293000) {mu ra : Nat → Int} {H : Heap} {locs : List Loc} {ls : Array Slot} (hI : lw_I K1 K2 P a B mo o s mu ra H locs) (hl : lv_has ls 8 (lw_lv b a mo o i)) (hN : lw_N p l e s m below meth c b K1 K2 P a B mo o i cells slots Q) : W p l e room_1 s m #[Value.ref b] below meth c H locs cells slots Q (F0 m 302 ls []) := by
  obtain ⟨C1, C2, hX, hbl, hL, hd12, ho1, ho2, hoA⟩ := X
  obtain ⟨E1, z1, sg, E2, z2, th, rg, ov, hbk, hS, hiv, hv, hiv2, hw1, hw2, ho⟩ := hI
  have hx := C1.1
  have hb := C1.2.1
  have hown := C1.2.2.2.1
  have hts := C1.2.2.2.2.1
  have hA : ∀ q, s.heap.size ≤ q → lw_Af s q := fun _ h => h
  have hbA : ¬ lw_Af s b := Nat.not_le.mpr hbl
  have hd21 : ∀ q, q ∈ bd_L K2 → q ∉ bd_L K1 := fun q h2 h1 => hd12 q h1 h2
  have h0 := lv_at hl 0 rfl
  have h4 := lv_at hl 4 rfl
  refine lv_aload_n hx hb dL_law_302 rfl (lv_at hl 1 rfl) ?_
  refine lw_rd (k := 1) hx hb hX hbl hbA hw1.2.2 h0 h4 (by omega) hL (by decide) dL_law_303 dL_law_304 dL_law_306 dL_law_307 dL_law_308 ?_
  refine lw_rd (k := 2) hx hb hX hbl hbA hw1.2.2 h0 h4 (by omega) hL (by decide) dL_law_309 dL_law_310 dL_law_312 dL_law_313 dL_law_314 ?_
  refine lw_rd (k := 3) hx hb hX hbl hbA hw1.2.2 h0 h4 (by omega) hL (by decide) dL_law_315 dL_law_316 dL_law_318 dL_law_319 dL_law_320 ?_
  refine lw_ci (As := [.int (xs (i + 1)), .int (xs (i + 2)), .int (xs (i + 3))]) (rest := []) C1 hA (c4_take _ _ _ _ _ hbk hS hiv (xs (i + 1)) (xs (i + 2)) (xs (i + 3))) (cwV 3 hts gL_law_X4_take rfl rfl rfl (by decide +kernel) ⟨Nat.le_of_ble_eq_true rfl, Nat.le_of_ble_eq_true rfl⟩) hw1 (bk_recv C1 hw1 hbk) dL_law_321 rfl hl.1 rfl (Nat.le_of_ble_eq_true rfl) ⟨Nat.le_of_succ_le hc, Nat.le_trans (Nat.le_add_right _ _) hs⟩ (fun r1 E1 z1 H1 locs1 hp1 hw1 hk1 => ?_)
  have hw2 := lw_keep hw2 hk1 hd21 hw1.2.2
  have ho := lw_keepo ho hk1 ho1
  refine lv_aload_n hx hb dL_law_324 rfl (lv_at hl 2 rfl) ?_
  refine lw_rd (k := 1) hx hb hX hbl hbA hw1.2.2 h0 h4 (by omega) hL (by decide) dL_law_325 dL_law_326 dL_law_328 dL_law_329 dL_law_330 ?_
  refine lw_rd (k := 2) hx hb hX hbl hbA hw1.2.2 h0 h4 (by omega) hL (by decide) dL_law_331 dL_law_332 dL_law_334 dL_law_335 dL_law_336 ?_
  refine lw_rd (k := 3) hx hb hX hbl hbA hw1.2.2 h0 h4 (by omega) hL (by decide) dL_law_337 dL_law_338 dL_law_340 dL_law_341 dL_law_342 ?_
  refine lw_ci (As := [.int (xs (i + 1)), .int (xs (i + 2)), .int (xs (i + 3))]) (rest := [.int r1]) C2 hA (v5_take _ _ _ _ _ hv hiv2 (xs (i + 1)) (xs (i + 2)) (xs (i + 3))) (cwV 3 hts gL_law_X5_take rfl rfl rfl (by decide +kernel) ⟨Nat.le_of_ble_eq_true rfl, Nat.le_of_ble_eq_true rfl⟩) hw2 (mv_recv C2 hw2 hv) dL_law_343 rfl hl.1 rfl (Nat.le_of_ble_eq_true rfl) ⟨Nat.le_of_succ_le hc, Nat.le_trans (Nat.le_add_right _ _) hs⟩ (fun r2 E2 z2 H2 locs2 hp2 hw2 hk2 => ?_)
  have hw1 := lw_keep hw1 hk2 hd12 hw2.2.2
  have ho := lw_keepo ho hk2 ho2
  obtain ⟨hr, hI⟩ := lw_fin hp1 hp2 hw1 hw2 ho
  refine lv_icmp_eq (tgt := 1121) hx hb dL_law_346 (by decide) (fun _ => ?_) (fun h => absurd hr h)
  exact W.widen (Nat.le_add_right _ _) (Nat.le_add_right _ _) (hN _ _ _ _ _ hI hl)
set_option maxHeartbeats 4000000 in
set_option maxRecDepth 100000 in
theorem lw_k_times {p : Program} {l : Launch} {e : Env} {s : State} {m : MethodId} {below : List Frame} {meth : Method} {c : Code} {b L : Nat} {xs : Nat → Int32} {K1 K2 : Cxt} {P : Nat} {a B mo : Nat → Nat} {o i cells slots : Nat} {Q : State → Prop} (X : lw_X p s m c b L xs K1 K2 o) (hi : i + 5 < L) (hc : cells + 1 ≤ 601024) (hs : slots + 6 ≤ 7293000) {mu ra : Nat → Int} {H : Heap} {locs : List Loc} {ls : Array Slot} (hI : lw_I K1 K2 P a B mo o s mu ra H locs) (hl : lv_has ls 8 (lw_lv b a mo o i)) (hN : lw_N p l e s m below meth c b K1 K2 P a B mo o i cells slots Q) : W p l e room_1 s m #[Value.ref b] below meth c H locs cells slots Q (F0 m 351 ls []) := by
  obtain ⟨C1, C2, hX, hbl, hL, hd12, ho1, ho2, hoA⟩ := X
  obtain ⟨E1, z1, sg, E2, z2, th, rg, ov, hbk, hS, hiv, hv, hiv2, hw1, hw2, ho⟩ := hI
  have hx := C1.1
  have hb := C1.2.1
  have hown := C1.2.2.2.1
  have hts := C1.2.2.2.2.1
  have hA : ∀ q, s.heap.size ≤ q → lw_Af s q := fun _ h => h
  have hbA : ¬ lw_Af s b := Nat.not_le.mpr hbl
  have hd21 : ∀ q, q ∈ bd_L K2 → q ∉ bd_L K1 := fun q h2 h1 => hd12 q h1 h2
  have h0 := lv_at hl 0 rfl
  have h4 := lv_at hl 4 rfl
  refine lv_aload_n hx hb dL_law_351 rfl (lv_at hl 1 rfl) ?_
  refine lw_rd (k := 1) hx hb hX hbl hbA hw1.2.2 h0 h4 (by omega) hL (by decide) dL_law_352 dL_law_353 dL_law_355 dL_law_356 dL_law_357 ?_
  refine lw_rd (k := 2) hx hb hX hbl hbA hw1.2.2 h0 h4 (by omega) hL (by decide) dL_law_358 dL_law_359 dL_law_361 dL_law_362 dL_law_363 ?_
  refine lw_rd (k := 3) hx hb hX hbl hbA hw1.2.2 h0 h4 (by omega) hL (by decide) dL_law_364 dL_law_365 dL_law_367 dL_law_368 dL_law_369 ?_
  refine lw_ci (As := [.int (xs (i + 1)), .int (xs (i + 2)), .int (xs (i + 3))]) (rest := []) C1 hA (c4_times _ _ _ _ _ hbk hS hiv (xs (i + 1)) (xs (i + 2)) (xs (i + 3))) (cwV 3 hts gL_law_X4_times rfl rfl rfl (by decide +kernel) ⟨Nat.le_of_ble_eq_true rfl, Nat.le_of_ble_eq_true rfl⟩) hw1 (bk_recv C1 hw1 hbk) dL_law_370 rfl hl.1 rfl (Nat.le_of_ble_eq_true rfl) ⟨Nat.le_of_succ_le hc, Nat.le_trans (Nat.le_add_right _ _) hs⟩ (fun r1 E1 z1 H1 locs1 hp1 hw1 hk1 => ?_)
  have hw2 := lw_keep hw2 hk1 hd21 hw1.2.2
  have ho := lw_keepo ho hk1 ho1
  refine lv_aload_n hx hb dL_law_373 rfl (lv_at hl 2 rfl) ?_
  refine lw_rd (k := 1) hx hb hX hbl hbA hw1.2.2 h0 h4 (by omega) hL (by decide) dL_law_374 dL_law_375 dL_law_377 dL_law_378 dL_law_379 ?_
  refine lw_rd (k := 2) hx hb hX hbl hbA hw1.2.2 h0 h4 (by omega) hL (by decide) dL_law_380 dL_law_381 dL_law_383 dL_law_384 dL_law_385 ?_
  refine lw_rd (k := 3) hx hb hX hbl hbA hw1.2.2 h0 h4 (by omega) hL (by decide) dL_law_386 dL_law_387 dL_law_389 dL_law_390 dL_law_391 ?_
  refine lw_ci (As := [.int (xs (i + 1)), .int (xs (i + 2)), .int (xs (i + 3))]) (rest := [.int r1]) C2 hA (v5_times _ _ _ _ _ hv hiv2 (xs (i + 1)) (xs (i + 2)) (xs (i + 3))) (cwV 3 hts gL_law_X5_times rfl rfl rfl (by decide +kernel) ⟨Nat.le_of_ble_eq_true rfl, Nat.le_of_ble_eq_true rfl⟩) hw2 (mv_recv C2 hw2 hv) dL_law_392 rfl hl.1 rfl (Nat.le_of_ble_eq_true rfl) ⟨Nat.le_of_succ_le hc, Nat.le_trans (Nat.le_add_right _ _) hs⟩ (fun r2 E2 z2 H2 locs2 hp2 hw2 hk2 => ?_)
  have hw1 := lw_keep hw1 hk2 hd12 hw2.2.2
  have ho := lw_keepo ho hk2 ho2
  obtain ⟨hr, hI⟩ := lw_fin hp1 hp2 hw1 hw2 ho
  refine lv_icmp_eq (tgt := 1121) hx hb dL_law_395 (by decide) (fun _ => ?_) (fun h => absurd hr h)
  exact W.widen (Nat.le_add_right _ _) (Nat.le_add_right _ _) (hN _ _ _ _ _ hI hl)
set_option maxHeartbeats 4000000 in
set_option maxRecDepth 100000 in
theorem lw_k_over {p : Program} {l : Launch} {e : Env} {s : State} {m : MethodId} {below : List Frame} {meth : Method} {c : Code} {b L : Nat} {xs : Nat → Int32} {K1 K2 : Cxt} {P : Nat} {a B mo : Nat → Nat} {o i cells slots : Nat} {Q : State → Prop} (X : lw_X p s m c b L xs K1 K2 o) (hi : i + 5 < L) (hc : cells + 1 ≤ 601024) (hs : slots + 6 ≤ 7293000) {mu ra : Nat → Int} {H : Heap} {locs : List Loc} {ls : Array Slot} (hI : lw_I K1 K2 P a B mo o s mu ra H locs) (hl : lv_has ls 8 (lw_lv b a mo o i)) (hN : lw_N p l e s m below meth c b K1 K2 P a B mo o i cells slots Q) : W p l e room_1 s m #[Value.ref b] below meth c H locs cells slots Q (F0 m 400 ls []) := by
  obtain ⟨C1, C2, hX, hbl, hL, hd12, ho1, ho2, hoA⟩ := X
  obtain ⟨E1, z1, sg, E2, z2, th, rg, ov, hbk, hS, hiv, hv, hiv2, hw1, hw2, ho⟩ := hI
  have hx := C1.1
  have hb := C1.2.1
  have hown := C1.2.2.2.1
  have hts := C1.2.2.2.2.1
  have hA : ∀ q, s.heap.size ≤ q → lw_Af s q := fun _ h => h
  have hbA : ¬ lw_Af s b := Nat.not_le.mpr hbl
  have hd21 : ∀ q, q ∈ bd_L K2 → q ∉ bd_L K1 := fun q h2 h1 => hd12 q h1 h2
  have h0 := lv_at hl 0 rfl
  have h4 := lv_at hl 4 rfl
  refine lv_aload_n hx hb dL_law_400 rfl (lv_at hl 1 rfl) ?_
  refine lw_rd (k := 1) hx hb hX hbl hbA hw1.2.2 h0 h4 (by omega) hL (by decide) dL_law_401 dL_law_402 dL_law_404 dL_law_405 dL_law_406 ?_
  refine lw_rd (k := 2) hx hb hX hbl hbA hw1.2.2 h0 h4 (by omega) hL (by decide) dL_law_407 dL_law_408 dL_law_410 dL_law_411 dL_law_412 ?_
  refine lw_rd (k := 3) hx hb hX hbl hbA hw1.2.2 h0 h4 (by omega) hL (by decide) dL_law_413 dL_law_414 dL_law_416 dL_law_417 dL_law_418 ?_
  refine lw_ci (As := [.int (xs (i + 1)), .int (xs (i + 2)), .int (xs (i + 3))]) (rest := []) C1 hA (c4_over _ _ _ _ _ hbk hS hiv (xs (i + 1)) (xs (i + 2)) (xs (i + 3))) (cwV 3 hts gL_law_X4_over rfl rfl rfl (by decide +kernel) ⟨Nat.le_of_ble_eq_true rfl, Nat.le_of_ble_eq_true rfl⟩) hw1 (bk_recv C1 hw1 hbk) dL_law_419 rfl hl.1 rfl (Nat.le_of_ble_eq_true rfl) ⟨Nat.le_of_succ_le hc, Nat.le_trans (Nat.le_add_right _ _) hs⟩ (fun r1 E1 z1 H1 locs1 hp1 hw1 hk1 => ?_)
  have hw2 := lw_keep hw2 hk1 hd21 hw1.2.2
  have ho := lw_keepo ho hk1 ho1
  refine lv_aload_n hx hb dL_law_422 rfl (lv_at hl 2 rfl) ?_
  refine lw_rd (k := 1) hx hb hX hbl hbA hw1.2.2 h0 h4 (by omega) hL (by decide) dL_law_423 dL_law_424 dL_law_426 dL_law_427 dL_law_428 ?_
  refine lw_rd (k := 2) hx hb hX hbl hbA hw1.2.2 h0 h4 (by omega) hL (by decide) dL_law_429 dL_law_430 dL_law_432 dL_law_433 dL_law_434 ?_
  refine lw_rd (k := 3) hx hb hX hbl hbA hw1.2.2 h0 h4 (by omega) hL (by decide) dL_law_435 dL_law_436 dL_law_438 dL_law_439 dL_law_440 ?_
  refine lw_ci (As := [.int (xs (i + 1)), .int (xs (i + 2)), .int (xs (i + 3))]) (rest := [.int r1]) C2 hA (v5_over _ _ _ _ _ hv hiv2 (xs (i + 1)) (xs (i + 2)) (xs (i + 3))) (cwV 3 hts gL_law_X5_over rfl rfl rfl (by decide +kernel) ⟨Nat.le_of_ble_eq_true rfl, Nat.le_of_ble_eq_true rfl⟩) hw2 (mv_recv C2 hw2 hv) dL_law_441 rfl hl.1 rfl (Nat.le_of_ble_eq_true rfl) ⟨Nat.le_of_succ_le hc, Nat.le_trans (Nat.le_add_right _ _) hs⟩ (fun r2 E2 z2 H2 locs2 hp2 hw2 hk2 => ?_)
  have hw1 := lw_keep hw1 hk2 hd12 hw2.2.2
  have ho := lw_keepo ho hk2 ho2
  obtain ⟨hr, hI⟩ := lw_fin hp1 hp2 hw1 hw2 ho
  refine lv_icmp_eq (tgt := 1121) hx hb dL_law_444 (by decide) (fun _ => ?_) (fun h => absurd hr h)
  exact W.widen (Nat.le_add_right _ _) (Nat.le_add_right _ _) (hN _ _ _ _ _ hI hl)
set_option maxHeartbeats 4000000 in
set_option maxRecDepth 100000 in
theorem lw_k_root {p : Program} {l : Launch} {e : Env} {s : State} {m : MethodId} {below : List Frame} {meth : Method} {c : Code} {b L : Nat} {xs : Nat → Int32} {K1 K2 : Cxt} {P : Nat} {a B mo : Nat → Nat} {o i cells slots : Nat} {Q : State → Prop} (X : lw_X p s m c b L xs K1 K2 o) (hi : i + 5 < L) (hc : cells + 1 ≤ 601024) (hs : slots + 6 ≤ 7293000) {mu ra : Nat → Int} {H : Heap} {locs : List Loc} {ls : Array Slot} (hI : lw_I K1 K2 P a B mo o s mu ra H locs) (hl : lv_has ls 8 (lw_lv b a mo o i)) (hN : lw_N p l e s m below meth c b K1 K2 P a B mo o i cells slots Q) : W p l e room_1 s m #[Value.ref b] below meth c H locs cells slots Q (F0 m 449 ls []) := by
  obtain ⟨C1, C2, hX, hbl, hL, hd12, ho1, ho2, hoA⟩ := X
  obtain ⟨E1, z1, sg, E2, z2, th, rg, ov, hbk, hS, hiv, hv, hiv2, hw1, hw2, ho⟩ := hI
  have hx := C1.1
  have hb := C1.2.1
  have hown := C1.2.2.2.1
  have hts := C1.2.2.2.2.1
  have hA : ∀ q, s.heap.size ≤ q → lw_Af s q := fun _ h => h
  have hbA : ¬ lw_Af s b := Nat.not_le.mpr hbl
  have hd21 : ∀ q, q ∈ bd_L K2 → q ∉ bd_L K1 := fun q h2 h1 => hd12 q h1 h2
  have h0 := lv_at hl 0 rfl
  have h4 := lv_at hl 4 rfl
  refine lv_aload_n hx hb dL_law_449 rfl (lv_at hl 1 rfl) ?_
  refine lw_rd (k := 1) hx hb hX hbl hbA hw1.2.2 h0 h4 (by omega) hL (by decide) dL_law_450 dL_law_451 dL_law_453 dL_law_454 dL_law_455 ?_
  refine lw_rd (k := 2) hx hb hX hbl hbA hw1.2.2 h0 h4 (by omega) hL (by decide) dL_law_456 dL_law_457 dL_law_459 dL_law_460 dL_law_461 ?_
  refine lw_ci (As := [.int (xs (i + 1)), .int (xs (i + 2))]) (rest := []) C1 hA (c4_root _ _ _ _ _ hbk hS hiv (xs (i + 1)) (xs (i + 2))) (cwV 2 hts gL_law_X4_root rfl rfl rfl (by decide +kernel) ⟨Nat.le_of_ble_eq_true rfl, Nat.le_of_ble_eq_true rfl⟩) hw1 (bk_recv C1 hw1 hbk) dL_law_462 rfl hl.1 rfl (Nat.le_of_ble_eq_true rfl) ⟨Nat.le_of_succ_le hc, Nat.le_trans (Nat.le_add_right _ _) hs⟩ (fun r1 E1 z1 H1 locs1 hp1 hw1 hk1 => ?_)
  have hw2 := lw_keep hw2 hk1 hd21 hw1.2.2
  have ho := lw_keepo ho hk1 ho1
  refine lv_aload_n hx hb dL_law_465 rfl (lv_at hl 2 rfl) ?_
  refine lw_rd (k := 1) hx hb hX hbl hbA hw1.2.2 h0 h4 (by omega) hL (by decide) dL_law_466 dL_law_467 dL_law_469 dL_law_470 dL_law_471 ?_
  refine lw_rd (k := 2) hx hb hX hbl hbA hw1.2.2 h0 h4 (by omega) hL (by decide) dL_law_472 dL_law_473 dL_law_475 dL_law_476 dL_law_477 ?_
  refine lw_ci (As := [.int (xs (i + 1)), .int (xs (i + 2))]) (rest := [.int r1]) C2 hA (v5_root _ _ _ _ _ hv hiv2 (xs (i + 1)) (xs (i + 2))) (cwV 2 hts gL_law_X5_root rfl rfl rfl (by decide +kernel) ⟨Nat.le_of_ble_eq_true rfl, Nat.le_of_ble_eq_true rfl⟩) hw2 (mv_recv C2 hw2 hv) dL_law_478 rfl hl.1 rfl (Nat.le_of_ble_eq_true rfl) ⟨Nat.le_of_succ_le hc, Nat.le_trans (Nat.le_add_right _ _) hs⟩ (fun r2 E2 z2 H2 locs2 hp2 hw2 hk2 => ?_)
  have hw1 := lw_keep hw1 hk2 hd12 hw2.2.2
  have ho := lw_keepo ho hk2 ho2
  obtain ⟨hr, hI⟩ := lw_fin hp1 hp2 hw1 hw2 ho
  refine lv_icmp_eq (tgt := 1121) hx hb dL_law_481 (by decide) (fun _ => ?_) (fun h => absurd hr h)
  exact W.widen (Nat.le_add_right _ _) (Nat.le_add_right _ _) (hN _ _ _ _ _ hI hl)
set_option maxHeartbeats 4000000 in
set_option maxRecDepth 100000 in
theorem lw_k_exp {p : Program} {l : Launch} {e : Env} {s : State} {m : MethodId} {below : List Frame} {meth : Method} {c : Code} {b L : Nat} {xs : Nat → Int32} {K1 K2 : Cxt} {P : Nat} {a B mo : Nat → Nat} {o i cells slots : Nat} {Q : State → Prop} (X : lw_X p s m c b L xs K1 K2 o) (hi : i + 5 < L) (hc : cells + 1 ≤ 601024) (hs : slots + 6 ≤ 7293000) {mu ra : Nat → Int} {H : Heap} {locs : List Loc} {ls : Array Slot} (hI : lw_I K1 K2 P a B mo o s mu ra H locs) (hl : lv_has ls 8 (lw_lv b a mo o i)) (hN : lw_N p l e s m below meth c b K1 K2 P a B mo o i cells slots Q) : W p l e room_1 s m #[Value.ref b] below meth c H locs cells slots Q (F0 m 486 ls []) := by
  obtain ⟨C1, C2, hX, hbl, hL, hd12, ho1, ho2, hoA⟩ := X
  obtain ⟨E1, z1, sg, E2, z2, th, rg, ov, hbk, hS, hiv, hv, hiv2, hw1, hw2, ho⟩ := hI
  have hx := C1.1
  have hb := C1.2.1
  have hown := C1.2.2.2.1
  have hts := C1.2.2.2.2.1
  have hA : ∀ q, s.heap.size ≤ q → lw_Af s q := fun _ h => h
  have hbA : ¬ lw_Af s b := Nat.not_le.mpr hbl
  have hd21 : ∀ q, q ∈ bd_L K2 → q ∉ bd_L K1 := fun q h2 h1 => hd12 q h1 h2
  have h0 := lv_at hl 0 rfl
  have h4 := lv_at hl 4 rfl
  refine lv_aload_n hx hb dL_law_486 rfl (lv_at hl 1 rfl) ?_
  refine lw_rd (k := 1) hx hb hX hbl hbA hw1.2.2 h0 h4 (by omega) hL (by decide) dL_law_487 dL_law_488 dL_law_490 dL_law_491 dL_law_492 ?_
  refine lw_rd (k := 2) hx hb hX hbl hbA hw1.2.2 h0 h4 (by omega) hL (by decide) dL_law_493 dL_law_494 dL_law_496 dL_law_497 dL_law_498 ?_
  refine lw_ci (As := [.int (xs (i + 1)), .int (xs (i + 2))]) (rest := []) C1 hA (c4_exp _ _ _ _ _ hbk hS hiv (xs (i + 1)) (xs (i + 2))) (cwV 2 hts gL_law_X4_exp rfl rfl rfl (by decide +kernel) ⟨Nat.le_of_ble_eq_true rfl, Nat.le_of_ble_eq_true rfl⟩) hw1 (bk_recv C1 hw1 hbk) dL_law_499 rfl hl.1 rfl (Nat.le_of_ble_eq_true rfl) ⟨Nat.le_of_succ_le hc, Nat.le_trans (Nat.le_add_right _ _) hs⟩ (fun r1 E1 z1 H1 locs1 hp1 hw1 hk1 => ?_)
  have hw2 := lw_keep hw2 hk1 hd21 hw1.2.2
  have ho := lw_keepo ho hk1 ho1
  refine lv_aload_n hx hb dL_law_502 rfl (lv_at hl 2 rfl) ?_
  refine lw_rd (k := 1) hx hb hX hbl hbA hw1.2.2 h0 h4 (by omega) hL (by decide) dL_law_503 dL_law_504 dL_law_506 dL_law_507 dL_law_508 ?_
  refine lw_rd (k := 2) hx hb hX hbl hbA hw1.2.2 h0 h4 (by omega) hL (by decide) dL_law_509 dL_law_510 dL_law_512 dL_law_513 dL_law_514 ?_
  refine lw_ci (As := [.int (xs (i + 1)), .int (xs (i + 2))]) (rest := [.int r1]) C2 hA (v5_exp _ _ _ _ _ hv hiv2 (xs (i + 1)) (xs (i + 2))) (cwV 2 hts gL_law_X5_exp rfl rfl rfl (by decide +kernel) ⟨Nat.le_of_ble_eq_true rfl, Nat.le_of_ble_eq_true rfl⟩) hw2 (mv_recv C2 hw2 hv) dL_law_515 rfl hl.1 rfl (Nat.le_of_ble_eq_true rfl) ⟨Nat.le_of_succ_le hc, Nat.le_trans (Nat.le_add_right _ _) hs⟩ (fun r2 E2 z2 H2 locs2 hp2 hw2 hk2 => ?_)
  have hw1 := lw_keep hw1 hk2 hd12 hw2.2.2
  have ho := lw_keepo ho hk2 ho2
  obtain ⟨hr, hI⟩ := lw_fin hp1 hp2 hw1 hw2 ho
  refine lv_icmp_eq (tgt := 1121) hx hb dL_law_518 (by decide) (fun _ => ?_) (fun h => absurd hr h)
  exact W.widen (Nat.le_add_right _ _) (Nat.le_add_right _ _) (hN _ _ _ _ _ hI hl)
set_option maxHeartbeats 4000000 in
set_option maxRecDepth 100000 in
theorem lw_k_log {p : Program} {l : Launch} {e : Env} {s : State} {m : MethodId} {below : List Frame} {meth : Method} {c : Code} {b L : Nat} {xs : Nat → Int32} {K1 K2 : Cxt} {P : Nat} {a B mo : Nat → Nat} {o i cells slots : Nat} {Q : State → Prop} (X : lw_X p s m c b L xs K1 K2 o) (hi : i + 5 < L) (hc : cells + 1 ≤ 601024) (hs : slots + 6 ≤ 7293000) {mu ra : Nat → Int} {H : Heap} {locs : List Loc} {ls : Array Slot} (hI : lw_I K1 K2 P a B mo o s mu ra H locs) (hl : lv_has ls 8 (lw_lv b a mo o i)) (hN : lw_N p l e s m below meth c b K1 K2 P a B mo o i cells slots Q) : W p l e room_1 s m #[Value.ref b] below meth c H locs cells slots Q (F0 m 523 ls []) := by
  obtain ⟨C1, C2, hX, hbl, hL, hd12, ho1, ho2, hoA⟩ := X
  obtain ⟨E1, z1, sg, E2, z2, th, rg, ov, hbk, hS, hiv, hv, hiv2, hw1, hw2, ho⟩ := hI
  have hx := C1.1
  have hb := C1.2.1
  have hown := C1.2.2.2.1
  have hts := C1.2.2.2.2.1
  have hA : ∀ q, s.heap.size ≤ q → lw_Af s q := fun _ h => h
  have hbA : ¬ lw_Af s b := Nat.not_le.mpr hbl
  have hd21 : ∀ q, q ∈ bd_L K2 → q ∉ bd_L K1 := fun q h2 h1 => hd12 q h1 h2
  have h0 := lv_at hl 0 rfl
  have h4 := lv_at hl 4 rfl
  refine lv_aload_n hx hb dL_law_523 rfl (lv_at hl 1 rfl) ?_
  refine lw_rd (k := 1) hx hb hX hbl hbA hw1.2.2 h0 h4 (by omega) hL (by decide) dL_law_524 dL_law_525 dL_law_527 dL_law_528 dL_law_529 ?_
  refine lw_rd (k := 2) hx hb hX hbl hbA hw1.2.2 h0 h4 (by omega) hL (by decide) dL_law_530 dL_law_531 dL_law_533 dL_law_534 dL_law_535 ?_
  refine lw_ci (As := [.int (xs (i + 1)), .int (xs (i + 2))]) (rest := []) C1 hA (c4_log _ _ _ _ _ hbk hS hiv (xs (i + 1)) (xs (i + 2))) (cwV 2 hts gL_law_X4_log rfl rfl rfl (by decide +kernel) ⟨Nat.le_of_ble_eq_true rfl, Nat.le_of_ble_eq_true rfl⟩) hw1 (bk_recv C1 hw1 hbk) dL_law_536 rfl hl.1 rfl (Nat.le_of_ble_eq_true rfl) ⟨Nat.le_of_succ_le hc, Nat.le_trans (Nat.le_add_right _ _) hs⟩ (fun r1 E1 z1 H1 locs1 hp1 hw1 hk1 => ?_)
  have hw2 := lw_keep hw2 hk1 hd21 hw1.2.2
  have ho := lw_keepo ho hk1 ho1
  refine lv_aload_n hx hb dL_law_539 rfl (lv_at hl 2 rfl) ?_
  refine lw_rd (k := 1) hx hb hX hbl hbA hw1.2.2 h0 h4 (by omega) hL (by decide) dL_law_540 dL_law_541 dL_law_543 dL_law_544 dL_law_545 ?_
  refine lw_rd (k := 2) hx hb hX hbl hbA hw1.2.2 h0 h4 (by omega) hL (by decide) dL_law_546 dL_law_547 dL_law_549 dL_law_550 dL_law_551 ?_
  refine lw_ci (As := [.int (xs (i + 1)), .int (xs (i + 2))]) (rest := [.int r1]) C2 hA (v5_log _ _ _ _ _ hv hiv2 (xs (i + 1)) (xs (i + 2))) (cwV 2 hts gL_law_X5_log rfl rfl rfl (by decide +kernel) ⟨Nat.le_of_ble_eq_true rfl, Nat.le_of_ble_eq_true rfl⟩) hw2 (mv_recv C2 hw2 hv) dL_law_552 rfl hl.1 rfl (Nat.le_of_ble_eq_true rfl) ⟨Nat.le_of_succ_le hc, Nat.le_trans (Nat.le_add_right _ _) hs⟩ (fun r2 E2 z2 H2 locs2 hp2 hw2 hk2 => ?_)
  have hw1 := lw_keep hw1 hk2 hd12 hw2.2.2
  have ho := lw_keepo ho hk2 ho2
  obtain ⟨hr, hI⟩ := lw_fin hp1 hp2 hw1 hw2 ho
  refine lv_icmp_eq (tgt := 1121) hx hb dL_law_555 (by decide) (fun _ => ?_) (fun h => absurd hr h)
  exact W.widen (Nat.le_add_right _ _) (Nat.le_add_right _ _) (hN _ _ _ _ _ hI hl)
set_option maxHeartbeats 4000000 in
set_option maxRecDepth 100000 in
theorem lw_k_arc {p : Program} {l : Launch} {e : Env} {s : State} {m : MethodId} {below : List Frame} {meth : Method} {c : Code} {b L : Nat} {xs : Nat → Int32} {K1 K2 : Cxt} {P : Nat} {a B mo : Nat → Nat} {o i cells slots : Nat} {Q : State → Prop} (X : lw_X p s m c b L xs K1 K2 o) (hi : i + 5 < L) (hc : cells + 1 ≤ 601024) (hs : slots + 6 ≤ 7293000) {mu ra : Nat → Int} {H : Heap} {locs : List Loc} {ls : Array Slot} (hI : lw_I K1 K2 P a B mo o s mu ra H locs) (hl : lv_has ls 8 (lw_lv b a mo o i)) (hN : lw_N p l e s m below meth c b K1 K2 P a B mo o i cells slots Q) : W p l e room_1 s m #[Value.ref b] below meth c H locs cells slots Q (F0 m 560 ls []) := by
  obtain ⟨C1, C2, hX, hbl, hL, hd12, ho1, ho2, hoA⟩ := X
  obtain ⟨E1, z1, sg, E2, z2, th, rg, ov, hbk, hS, hiv, hv, hiv2, hw1, hw2, ho⟩ := hI
  have hx := C1.1
  have hb := C1.2.1
  have hown := C1.2.2.2.1
  have hts := C1.2.2.2.2.1
  have hA : ∀ q, s.heap.size ≤ q → lw_Af s q := fun _ h => h
  have hbA : ¬ lw_Af s b := Nat.not_le.mpr hbl
  have hd21 : ∀ q, q ∈ bd_L K2 → q ∉ bd_L K1 := fun q h2 h1 => hd12 q h1 h2
  have h0 := lv_at hl 0 rfl
  have h4 := lv_at hl 4 rfl
  refine lv_aload_n hx hb dL_law_560 rfl (lv_at hl 1 rfl) ?_
  refine lw_rd (k := 1) hx hb hX hbl hbA hw1.2.2 h0 h4 (by omega) hL (by decide) dL_law_561 dL_law_562 dL_law_564 dL_law_565 dL_law_566 ?_
  refine lw_rd (k := 2) hx hb hX hbl hbA hw1.2.2 h0 h4 (by omega) hL (by decide) dL_law_567 dL_law_568 dL_law_570 dL_law_571 dL_law_572 ?_
  refine lw_ci (As := [.int (xs (i + 1)), .int (xs (i + 2))]) (rest := []) C1 hA (c4_arc _ _ _ _ _ hbk hS hiv (xs (i + 1)) (xs (i + 2))) (cwV 2 hts gL_law_X4_arc rfl rfl rfl (by decide +kernel) ⟨Nat.le_of_ble_eq_true rfl, Nat.le_of_ble_eq_true rfl⟩) hw1 (bk_recv C1 hw1 hbk) dL_law_573 rfl hl.1 rfl (Nat.le_of_ble_eq_true rfl) ⟨Nat.le_of_succ_le hc, Nat.le_trans (Nat.le_add_right _ _) hs⟩ (fun r1 E1 z1 H1 locs1 hp1 hw1 hk1 => ?_)
  have hw2 := lw_keep hw2 hk1 hd21 hw1.2.2
  have ho := lw_keepo ho hk1 ho1
  refine lv_aload_n hx hb dL_law_576 rfl (lv_at hl 2 rfl) ?_
  refine lw_rd (k := 1) hx hb hX hbl hbA hw1.2.2 h0 h4 (by omega) hL (by decide) dL_law_577 dL_law_578 dL_law_580 dL_law_581 dL_law_582 ?_
  refine lw_rd (k := 2) hx hb hX hbl hbA hw1.2.2 h0 h4 (by omega) hL (by decide) dL_law_583 dL_law_584 dL_law_586 dL_law_587 dL_law_588 ?_
  refine lw_ci (As := [.int (xs (i + 1)), .int (xs (i + 2))]) (rest := [.int r1]) C2 hA (v5_arc _ _ _ _ _ hv hiv2 (xs (i + 1)) (xs (i + 2))) (cwV 2 hts gL_law_X5_arc rfl rfl rfl (by decide +kernel) ⟨Nat.le_of_ble_eq_true rfl, Nat.le_of_ble_eq_true rfl⟩) hw2 (mv_recv C2 hw2 hv) dL_law_589 rfl hl.1 rfl (Nat.le_of_ble_eq_true rfl) ⟨Nat.le_of_succ_le hc, Nat.le_trans (Nat.le_add_right _ _) hs⟩ (fun r2 E2 z2 H2 locs2 hp2 hw2 hk2 => ?_)
  have hw1 := lw_keep hw1 hk2 hd12 hw2.2.2
  have ho := lw_keepo ho hk2 ho2
  obtain ⟨hr, hI⟩ := lw_fin hp1 hp2 hw1 hw2 ho
  refine lv_icmp_eq (tgt := 1121) hx hb dL_law_592 (by decide) (fun _ => ?_) (fun h => absurd hr h)
  exact W.widen (Nat.le_add_right _ _) (Nat.le_add_right _ _) (hN _ _ _ _ _ hI hl)
set_option maxHeartbeats 4000000 in
set_option maxRecDepth 100000 in
theorem lw_k_sine {p : Program} {l : Launch} {e : Env} {s : State} {m : MethodId} {below : List Frame} {meth : Method} {c : Code} {b L : Nat} {xs : Nat → Int32} {K1 K2 : Cxt} {P : Nat} {a B mo : Nat → Nat} {o i cells slots : Nat} {Q : State → Prop} (X : lw_X p s m c b L xs K1 K2 o) (hi : i + 5 < L) (hc : cells + 1 ≤ 601024) (hs : slots + 6 ≤ 7293000) {mu ra : Nat → Int} {H : Heap} {locs : List Loc} {ls : Array Slot} (hI : lw_I K1 K2 P a B mo o s mu ra H locs) (hl : lv_has ls 8 (lw_lv b a mo o i)) (hN : lw_N p l e s m below meth c b K1 K2 P a B mo o i cells slots Q) : W p l e room_1 s m #[Value.ref b] below meth c H locs cells slots Q (F0 m 597 ls []) := by
  obtain ⟨C1, C2, hX, hbl, hL, hd12, ho1, ho2, hoA⟩ := X
  obtain ⟨E1, z1, sg, E2, z2, th, rg, ov, hbk, hS, hiv, hv, hiv2, hw1, hw2, ho⟩ := hI
  have hx := C1.1
  have hb := C1.2.1
  have hown := C1.2.2.2.1
  have hts := C1.2.2.2.2.1
  have hA : ∀ q, s.heap.size ≤ q → lw_Af s q := fun _ h => h
  have hbA : ¬ lw_Af s b := Nat.not_le.mpr hbl
  have hd21 : ∀ q, q ∈ bd_L K2 → q ∉ bd_L K1 := fun q h2 h1 => hd12 q h1 h2
  have h0 := lv_at hl 0 rfl
  have h4 := lv_at hl 4 rfl
  by_cases hz3 : xs (i + 3) = 0
  · refine lv_aload_n hx hb dL_law_597 rfl (lv_at hl 1 rfl) ?_
    refine lw_rd (k := 1) hx hb hX hbl hbA hw1.2.2 h0 h4 (by omega) hL (by decide) dL_law_598 dL_law_599 dL_law_601 dL_law_602 dL_law_603 ?_
    refine lw_rd (k := 2) hx hb hX hbl hbA hw1.2.2 h0 h4 (by omega) hL (by decide) dL_law_604 dL_law_605 dL_law_607 dL_law_608 dL_law_609 ?_
    refine lw_rd (k := 3) hx hb hX hbl hbA hw1.2.2 h0 h4 (by omega) hL (by decide) dL_law_610 dL_law_611 dL_law_613 dL_law_614 dL_law_615 ?_
    refine lv_if_eq (tgt := 623) hx hb dL_law_616 (by decide) (fun _ => ?_) (fun h => absurd hz3 h)
    refine lv_iconst (v := nI 0) hx hb dL_law_623 (by decide) ?_
    refine lw_ci (As := [.int (xs (i + 1)), .int (xs (i + 2)), .int (nI 0)]) (rest := []) C1 hA (c4_sine _ _ _ _ _ hbk hS hiv (xs (i + 1)) (xs (i + 2)) 0 false (Or.inr ⟨rfl, rfl⟩)) (cwV 3 hts gL_law_X4_sine rfl rfl rfl (by decide +kernel) ⟨Nat.le_of_ble_eq_true rfl, Nat.le_of_ble_eq_true rfl⟩) hw1 (bk_recv C1 hw1 hbk) dL_law_624 rfl hl.1 rfl (Nat.le_of_ble_eq_true rfl) ⟨Nat.le_of_succ_le hc, Nat.le_trans (Nat.le_add_right _ _) hs⟩ (fun r1 E1 z1 H1 locs1 hp1 hw1 hk1 => ?_)
    have hw2 := lw_keep hw2 hk1 hd21 hw1.2.2
    have ho := lw_keepo ho hk1 ho1
    refine lv_aload_n hx hb dL_law_627 rfl (lv_at hl 2 rfl) ?_
    refine lw_rd (k := 1) hx hb hX hbl hbA hw1.2.2 h0 h4 (by omega) hL (by decide) dL_law_628 dL_law_629 dL_law_631 dL_law_632 dL_law_633 ?_
    refine lw_rd (k := 2) hx hb hX hbl hbA hw1.2.2 h0 h4 (by omega) hL (by decide) dL_law_634 dL_law_635 dL_law_637 dL_law_638 dL_law_639 ?_
    refine lw_rd (k := 3) hx hb hX hbl hbA hw1.2.2 h0 h4 (by omega) hL (by decide) dL_law_640 dL_law_641 dL_law_643 dL_law_644 dL_law_645 ?_
    refine lv_if_eq (tgt := 653) hx hb dL_law_646 (by decide) (fun _ => ?_) (fun h => absurd hz3 h)
    refine lv_iconst (v := nI 0) hx hb dL_law_653 (by decide) ?_
    refine lw_ci (As := [.int (xs (i + 1)), .int (xs (i + 2)), .int (nI 0)]) (rest := [.int r1]) C2 hA (v5_sine _ _ _ _ _ hv hiv2 (xs (i + 1)) (xs (i + 2)) 0 false (Or.inr ⟨rfl, rfl⟩)) (cwV 3 hts gL_law_X5_sine rfl rfl rfl (by decide +kernel) ⟨Nat.le_of_ble_eq_true rfl, Nat.le_of_ble_eq_true rfl⟩) hw2 (mv_recv C2 hw2 hv) dL_law_654 rfl hl.1 rfl (Nat.le_of_ble_eq_true rfl) ⟨Nat.le_of_succ_le hc, Nat.le_trans (Nat.le_add_right _ _) hs⟩ (fun r2 E2 z2 H2 locs2 hp2 hw2 hk2 => ?_)
    have hw1 := lw_keep hw1 hk2 hd12 hw2.2.2
    have ho := lw_keepo ho hk2 ho2
    obtain ⟨hr, hI⟩ := lw_fin hp1 hp2 hw1 hw2 ho
    refine lv_icmp_eq (tgt := 1121) hx hb dL_law_657 (by decide) (fun _ => ?_) (fun h => absurd hr h)
    exact W.widen (Nat.le_add_right _ _) (Nat.le_add_right _ _) (hN _ _ _ _ _ hI hl)
  · refine lv_aload_n hx hb dL_law_597 rfl (lv_at hl 1 rfl) ?_
    refine lw_rd (k := 1) hx hb hX hbl hbA hw1.2.2 h0 h4 (by omega) hL (by decide) dL_law_598 dL_law_599 dL_law_601 dL_law_602 dL_law_603 ?_
    refine lw_rd (k := 2) hx hb hX hbl hbA hw1.2.2 h0 h4 (by omega) hL (by decide) dL_law_604 dL_law_605 dL_law_607 dL_law_608 dL_law_609 ?_
    refine lw_rd (k := 3) hx hb hX hbl hbA hw1.2.2 h0 h4 (by omega) hL (by decide) dL_law_610 dL_law_611 dL_law_613 dL_law_614 dL_law_615 ?_
    refine lv_if_eq (tgt := 623) hx hb dL_law_616 (by decide) (fun h => absurd h hz3) (fun _ => ?_)
    refine lv_iconst (v := nI 1) hx hb dL_law_619 (by decide) ?_
    refine lv_goto (tgt := 624) hx hb dL_law_620 (by decide) ?_
    refine lw_ci (As := [.int (xs (i + 1)), .int (xs (i + 2)), .int (nI 1)]) (rest := []) C1 hA (c4_sine _ _ _ _ _ hbk hS hiv (xs (i + 1)) (xs (i + 2)) 1 true (Or.inl ⟨rfl, rfl⟩)) (cwV 3 hts gL_law_X4_sine rfl rfl rfl (by decide +kernel) ⟨Nat.le_of_ble_eq_true rfl, Nat.le_of_ble_eq_true rfl⟩) hw1 (bk_recv C1 hw1 hbk) dL_law_624 rfl hl.1 rfl (Nat.le_of_ble_eq_true rfl) ⟨Nat.le_of_succ_le hc, Nat.le_trans (Nat.le_add_right _ _) hs⟩ (fun r1 E1 z1 H1 locs1 hp1 hw1 hk1 => ?_)
    have hw2 := lw_keep hw2 hk1 hd21 hw1.2.2
    have ho := lw_keepo ho hk1 ho1
    refine lv_aload_n hx hb dL_law_627 rfl (lv_at hl 2 rfl) ?_
    refine lw_rd (k := 1) hx hb hX hbl hbA hw1.2.2 h0 h4 (by omega) hL (by decide) dL_law_628 dL_law_629 dL_law_631 dL_law_632 dL_law_633 ?_
    refine lw_rd (k := 2) hx hb hX hbl hbA hw1.2.2 h0 h4 (by omega) hL (by decide) dL_law_634 dL_law_635 dL_law_637 dL_law_638 dL_law_639 ?_
    refine lw_rd (k := 3) hx hb hX hbl hbA hw1.2.2 h0 h4 (by omega) hL (by decide) dL_law_640 dL_law_641 dL_law_643 dL_law_644 dL_law_645 ?_
    refine lv_if_eq (tgt := 653) hx hb dL_law_646 (by decide) (fun h => absurd h hz3) (fun _ => ?_)
    refine lv_iconst (v := nI 1) hx hb dL_law_649 (by decide) ?_
    refine lv_goto (tgt := 654) hx hb dL_law_650 (by decide) ?_
    refine lw_ci (As := [.int (xs (i + 1)), .int (xs (i + 2)), .int (nI 1)]) (rest := [.int r1]) C2 hA (v5_sine _ _ _ _ _ hv hiv2 (xs (i + 1)) (xs (i + 2)) 1 true (Or.inl ⟨rfl, rfl⟩)) (cwV 3 hts gL_law_X5_sine rfl rfl rfl (by decide +kernel) ⟨Nat.le_of_ble_eq_true rfl, Nat.le_of_ble_eq_true rfl⟩) hw2 (mv_recv C2 hw2 hv) dL_law_654 rfl hl.1 rfl (Nat.le_of_ble_eq_true rfl) ⟨Nat.le_of_succ_le hc, Nat.le_trans (Nat.le_add_right _ _) hs⟩ (fun r2 E2 z2 H2 locs2 hp2 hw2 hk2 => ?_)
    have hw1 := lw_keep hw1 hk2 hd12 hw2.2.2
    have ho := lw_keepo ho hk2 ho2
    obtain ⟨hr, hI⟩ := lw_fin hp1 hp2 hw1 hw2 ho
    refine lv_icmp_eq (tgt := 1121) hx hb dL_law_657 (by decide) (fun _ => ?_) (fun h => absurd hr h)
    exact W.widen (Nat.le_add_right _ _) (Nat.le_add_right _ _) (hN _ _ _ _ _ hI hl)
set_option maxHeartbeats 4000000 in
set_option maxRecDepth 100000 in
theorem lw_k_pi {p : Program} {l : Launch} {e : Env} {s : State} {m : MethodId} {below : List Frame} {meth : Method} {c : Code} {b L : Nat} {xs : Nat → Int32} {K1 K2 : Cxt} {P : Nat} {a B mo : Nat → Nat} {o i cells slots : Nat} {Q : State → Prop} (X : lw_X p s m c b L xs K1 K2 o) (hi : i + 5 < L) (hc : cells + 1 ≤ 601024) (hs : slots + 6 ≤ 7293000) {mu ra : Nat → Int} {H : Heap} {locs : List Loc} {ls : Array Slot} (hI : lw_I K1 K2 P a B mo o s mu ra H locs) (hl : lv_has ls 8 (lw_lv b a mo o i)) (hN : lw_N p l e s m below meth c b K1 K2 P a B mo o i cells slots Q) : W p l e room_1 s m #[Value.ref b] below meth c H locs cells slots Q (F0 m 662 ls []) := by
  obtain ⟨C1, C2, hX, hbl, hL, hd12, ho1, ho2, hoA⟩ := X
  obtain ⟨E1, z1, sg, E2, z2, th, rg, ov, hbk, hS, hiv, hv, hiv2, hw1, hw2, ho⟩ := hI
  have hx := C1.1
  have hb := C1.2.1
  have hown := C1.2.2.2.1
  have hts := C1.2.2.2.2.1
  have hA : ∀ q, s.heap.size ≤ q → lw_Af s q := fun _ h => h
  have hbA : ¬ lw_Af s b := Nat.not_le.mpr hbl
  have hd21 : ∀ q, q ∈ bd_L K2 → q ∉ bd_L K1 := fun q h2 h1 => hd12 q h1 h2
  have h0 := lv_at hl 0 rfl
  have h4 := lv_at hl 4 rfl
  refine lv_aload_n hx hb dL_law_662 rfl (lv_at hl 1 rfl) ?_
  refine lw_rd (k := 1) hx hb hX hbl hbA hw1.2.2 h0 h4 (by omega) hL (by decide) dL_law_663 dL_law_664 dL_law_666 dL_law_667 dL_law_668 ?_
  refine lw_ci (As := [.int (xs (i + 1))]) (rest := []) C1 hA (c4_pi _ _ _ _ _ hbk hS hiv (xs (i + 1))) (cwV 1 hts gL_law_X4_pi rfl rfl rfl (by decide +kernel) ⟨Nat.le_of_ble_eq_true rfl, Nat.le_of_ble_eq_true rfl⟩) hw1 (bk_recv C1 hw1 hbk) dL_law_669 rfl hl.1 rfl (Nat.le_of_ble_eq_true rfl) ⟨Nat.le_of_succ_le hc, Nat.le_trans (Nat.le_add_right _ _) hs⟩ (fun r1 E1 z1 H1 locs1 hp1 hw1 hk1 => ?_)
  have hw2 := lw_keep hw2 hk1 hd21 hw1.2.2
  have ho := lw_keepo ho hk1 ho1
  refine lv_aload_n hx hb dL_law_672 rfl (lv_at hl 2 rfl) ?_
  refine lw_rd (k := 1) hx hb hX hbl hbA hw1.2.2 h0 h4 (by omega) hL (by decide) dL_law_673 dL_law_674 dL_law_676 dL_law_677 dL_law_678 ?_
  refine lw_ci (As := [.int (xs (i + 1))]) (rest := [.int r1]) C2 hA (v5_pi _ _ _ _ _ hv hiv2 (xs (i + 1))) (cwV 1 hts gL_law_X5_pi rfl rfl rfl (by decide +kernel) ⟨Nat.le_of_ble_eq_true rfl, Nat.le_of_ble_eq_true rfl⟩) hw2 (mv_recv C2 hw2 hv) dL_law_679 rfl hl.1 rfl (Nat.le_of_ble_eq_true rfl) ⟨Nat.le_of_succ_le hc, Nat.le_trans (Nat.le_add_right _ _) hs⟩ (fun r2 E2 z2 H2 locs2 hp2 hw2 hk2 => ?_)
  have hw1 := lw_keep hw1 hk2 hd12 hw2.2.2
  have ho := lw_keepo ho hk2 ho2
  obtain ⟨hr, hI⟩ := lw_fin hp1 hp2 hw1 hw2 ho
  refine lv_icmp_eq (tgt := 1121) hx hb dL_law_682 (by decide) (fun _ => ?_) (fun h => absurd hr h)
  exact W.widen (Nat.le_add_right _ _) (Nat.le_add_right _ _) (hN _ _ _ _ _ hI hl)
set_option maxHeartbeats 4000000 in
set_option maxRecDepth 100000 in
theorem lw_k_widen {p : Program} {l : Launch} {e : Env} {s : State} {m : MethodId} {below : List Frame} {meth : Method} {c : Code} {b L : Nat} {xs : Nat → Int32} {K1 K2 : Cxt} {P : Nat} {a B mo : Nat → Nat} {o i cells slots : Nat} {Q : State → Prop} (X : lw_X p s m c b L xs K1 K2 o) (hi : i + 5 < L) (hc : cells + 1 ≤ 601024) (hs : slots + 6 ≤ 7293000) {mu ra : Nat → Int} {H : Heap} {locs : List Loc} {ls : Array Slot} (hI : lw_I K1 K2 P a B mo o s mu ra H locs) (hl : lv_has ls 8 (lw_lv b a mo o i)) (hN : lw_N p l e s m below meth c b K1 K2 P a B mo o i cells slots Q) : W p l e room_1 s m #[Value.ref b] below meth c H locs cells slots Q (F0 m 687 ls []) := by
  obtain ⟨C1, C2, hX, hbl, hL, hd12, ho1, ho2, hoA⟩ := X
  obtain ⟨E1, z1, sg, E2, z2, th, rg, ov, hbk, hS, hiv, hv, hiv2, hw1, hw2, ho⟩ := hI
  have hx := C1.1
  have hb := C1.2.1
  have hown := C1.2.2.2.1
  have hts := C1.2.2.2.2.1
  have hA : ∀ q, s.heap.size ≤ q → lw_Af s q := fun _ h => h
  have hbA : ¬ lw_Af s b := Nat.not_le.mpr hbl
  have hd21 : ∀ q, q ∈ bd_L K2 → q ∉ bd_L K1 := fun q h2 h1 => hd12 q h1 h2
  have h0 := lv_at hl 0 rfl
  have h4 := lv_at hl 4 rfl
  have hcst : Cond.constantLong RL 27 4294967295 ∈ wsL_law := by decide +kernel
  refine lv_aload_n hx hb dL_law_687 rfl (lv_at hl 1 rfl) ?_
  refine lw_rd (k := 1) hx hb hX hbl hbA hw1.2.2 h0 h4 (by omega) hL (by decide) dL_law_688 dL_law_689 dL_law_691 dL_law_692 dL_law_693 ?_
  refine lw_rdL (own := RL) (k := 2) hx hb hown (hts _ hcst) hX hbl hbA hw1.2.2 h0 h4 (by omega) hL (by decide) (by decide) dL_law_694 dL_law_695 dL_law_697 dL_law_698 dL_law_699 dL_law_700 dL_law_701 dL_law_703 dL_law_704 dL_law_705 dL_law_707 dL_law_708 dL_law_709 dL_law_710 dL_law_711 dL_law_714 dL_law_715 ?_
  refine lw_ci (As := [.int (xs (i + 1)), .long (lw_j (xs (i + 2)) (xs (i + (2 + 1))))]) (rest := []) C1 hA (c4_widen _ _ _ _ _ hbk hS hiv (xs (i + 1)) (lw_j (xs (i + 2)) (xs (i + (2 + 1))))) (cwV 2 hts gL_law_X4_widen rfl rfl rfl (by decide +kernel) ⟨Nat.le_of_ble_eq_true rfl, Nat.le_of_ble_eq_true rfl⟩) hw1 (bk_recv C1 hw1 hbk) dL_law_716 rfl hl.1 rfl (Nat.le_of_ble_eq_true rfl) ⟨Nat.le_of_succ_le hc, Nat.le_trans (Nat.le_add_right _ _) hs⟩ (fun r1 E1 z1 H1 locs1 hp1 hw1 hk1 => ?_)
  have hw2 := lw_keep hw2 hk1 hd21 hw1.2.2
  have ho := lw_keepo ho hk1 ho1
  refine lv_aload_n hx hb dL_law_719 rfl (lv_at hl 2 rfl) ?_
  refine lw_rd (k := 1) hx hb hX hbl hbA hw1.2.2 h0 h4 (by omega) hL (by decide) dL_law_720 dL_law_721 dL_law_723 dL_law_724 dL_law_725 ?_
  refine lw_rdL (own := RL) (k := 2) hx hb hown (hts _ hcst) hX hbl hbA hw1.2.2 h0 h4 (by omega) hL (by decide) (by decide) dL_law_726 dL_law_727 dL_law_729 dL_law_730 dL_law_731 dL_law_732 dL_law_733 dL_law_735 dL_law_736 dL_law_737 dL_law_739 dL_law_740 dL_law_741 dL_law_742 dL_law_743 dL_law_746 dL_law_747 ?_
  refine lw_ci (As := [.int (xs (i + 1)), .long (lw_j (xs (i + 2)) (xs (i + (2 + 1))))]) (rest := [.int r1]) C2 hA (v5_widen _ _ _ _ _ hv hiv2 (xs (i + 1)) (lw_j (xs (i + 2)) (xs (i + (2 + 1))))) (cwV 2 hts gL_law_X5_widen rfl rfl rfl (by decide +kernel) ⟨Nat.le_of_ble_eq_true rfl, Nat.le_of_ble_eq_true rfl⟩) hw2 (mv_recv C2 hw2 hv) dL_law_748 rfl hl.1 rfl (Nat.le_of_ble_eq_true rfl) ⟨Nat.le_of_succ_le hc, Nat.le_trans (Nat.le_add_right _ _) hs⟩ (fun r2 E2 z2 H2 locs2 hp2 hw2 hk2 => ?_)
  have hw1 := lw_keep hw1 hk2 hd12 hw2.2.2
  have ho := lw_keepo ho hk2 ho2
  obtain ⟨hr, hI⟩ := lw_fin hp1 hp2 hw1 hw2 ho
  refine lv_icmp_eq (tgt := 1121) hx hb dL_law_751 (by decide) (fun _ => ?_) (fun h => absurd hr h)
  exact W.widen (Nat.le_add_right _ _) (Nat.le_add_right _ _) (hN _ _ _ _ _ hI hl)
set_option maxHeartbeats 4000000 in
set_option maxRecDepth 100000 in
theorem lw_k_join {p : Program} {l : Launch} {e : Env} {s : State} {m : MethodId} {below : List Frame} {meth : Method} {c : Code} {b L : Nat} {xs : Nat → Int32} {K1 K2 : Cxt} {P : Nat} {a B mo : Nat → Nat} {o i cells slots : Nat} {Q : State → Prop} (X : lw_X p s m c b L xs K1 K2 o) (hi : i + 5 < L) (hc : cells + 1 ≤ 601024) (hs : slots + 6 ≤ 7293000) {mu ra : Nat → Int} {H : Heap} {locs : List Loc} {ls : Array Slot} (hI : lw_I K1 K2 P a B mo o s mu ra H locs) (hl : lv_has ls 8 (lw_lv b a mo o i)) (hN : lw_N p l e s m below meth c b K1 K2 P a B mo o i cells slots Q) : W p l e room_1 s m #[Value.ref b] below meth c H locs cells slots Q (F0 m 756 ls []) := by
  obtain ⟨C1, C2, hX, hbl, hL, hd12, ho1, ho2, hoA⟩ := X
  obtain ⟨E1, z1, sg, E2, z2, th, rg, ov, hbk, hS, hiv, hv, hiv2, hw1, hw2, ho⟩ := hI
  have hx := C1.1
  have hb := C1.2.1
  have hown := C1.2.2.2.1
  have hts := C1.2.2.2.2.1
  have hA : ∀ q, s.heap.size ≤ q → lw_Af s q := fun _ h => h
  have hbA : ¬ lw_Af s b := Nat.not_le.mpr hbl
  have hd21 : ∀ q, q ∈ bd_L K2 → q ∉ bd_L K1 := fun q h2 h1 => hd12 q h1 h2
  have h0 := lv_at hl 0 rfl
  have h4 := lv_at hl 4 rfl
  refine lv_aload_n hx hb dL_law_756 rfl (lv_at hl 1 rfl) ?_
  refine lw_rd (k := 1) hx hb hX hbl hbA hw1.2.2 h0 h4 (by omega) hL (by decide) dL_law_757 dL_law_758 dL_law_760 dL_law_761 dL_law_762 ?_
  refine lw_rd (k := 2) hx hb hX hbl hbA hw1.2.2 h0 h4 (by omega) hL (by decide) dL_law_763 dL_law_764 dL_law_766 dL_law_767 dL_law_768 ?_
  refine lw_rd (k := 3) hx hb hX hbl hbA hw1.2.2 h0 h4 (by omega) hL (by decide) dL_law_769 dL_law_770 dL_law_772 dL_law_773 dL_law_774 ?_
  refine lw_ci (As := [.int (xs (i + 1)), .int (xs (i + 2)), .int (xs (i + 3))]) (rest := []) C1 hA (c4_join _ _ _ _ _ hbk hS hiv (xs (i + 1)) (xs (i + 2)) (xs (i + 3))) (cwV 3 hts gL_law_X4_join rfl rfl rfl (by decide +kernel) ⟨Nat.le_of_ble_eq_true rfl, Nat.le_of_ble_eq_true rfl⟩) hw1 (bk_recv C1 hw1 hbk) dL_law_775 rfl hl.1 rfl (Nat.le_of_ble_eq_true rfl) ⟨Nat.le_of_succ_le hc, Nat.le_trans (Nat.le_add_right _ _) hs⟩ (fun r1 E1 z1 H1 locs1 hp1 hw1 hk1 => ?_)
  have hw2 := lw_keep hw2 hk1 hd21 hw1.2.2
  have ho := lw_keepo ho hk1 ho1
  refine lv_aload_n hx hb dL_law_778 rfl (lv_at hl 2 rfl) ?_
  refine lw_rd (k := 1) hx hb hX hbl hbA hw1.2.2 h0 h4 (by omega) hL (by decide) dL_law_779 dL_law_780 dL_law_782 dL_law_783 dL_law_784 ?_
  refine lw_rd (k := 2) hx hb hX hbl hbA hw1.2.2 h0 h4 (by omega) hL (by decide) dL_law_785 dL_law_786 dL_law_788 dL_law_789 dL_law_790 ?_
  refine lw_rd (k := 3) hx hb hX hbl hbA hw1.2.2 h0 h4 (by omega) hL (by decide) dL_law_791 dL_law_792 dL_law_794 dL_law_795 dL_law_796 ?_
  refine lw_ci (As := [.int (xs (i + 1)), .int (xs (i + 2)), .int (xs (i + 3))]) (rest := [.int r1]) C2 hA (v5_join _ _ _ _ _ hv hiv2 (xs (i + 1)) (xs (i + 2)) (xs (i + 3))) (cwV 3 hts gL_law_X5_join rfl rfl rfl (by decide +kernel) ⟨Nat.le_of_ble_eq_true rfl, Nat.le_of_ble_eq_true rfl⟩) hw2 (mv_recv C2 hw2 hv) dL_law_797 rfl hl.1 rfl (Nat.le_of_ble_eq_true rfl) ⟨Nat.le_of_succ_le hc, Nat.le_trans (Nat.le_add_right _ _) hs⟩ (fun r2 E2 z2 H2 locs2 hp2 hw2 hk2 => ?_)
  have hw1 := lw_keep hw1 hk2 hd12 hw2.2.2
  have ho := lw_keepo ho hk2 ho2
  obtain ⟨hr, hI⟩ := lw_fin hp1 hp2 hw1 hw2 ho
  refine lv_icmp_eq (tgt := 1121) hx hb dL_law_800 (by decide) (fun _ => ?_) (fun h => absurd hr h)
  exact W.widen (Nat.le_add_right _ _) (Nat.le_add_right _ _) (hN _ _ _ _ _ hI hl)
set_option maxHeartbeats 4000000 in
set_option maxRecDepth 100000 in
theorem lw_k_lies {p : Program} {l : Launch} {e : Env} {s : State} {m : MethodId} {below : List Frame} {meth : Method} {c : Code} {b L : Nat} {xs : Nat → Int32} {K1 K2 : Cxt} {P : Nat} {a B mo : Nat → Nat} {o i cells slots : Nat} {Q : State → Prop} (X : lw_X p s m c b L xs K1 K2 o) (hi : i + 5 < L) (hc : cells + 1 ≤ 601024) (hs : slots + 6 ≤ 7293000) {mu ra : Nat → Int} {H : Heap} {locs : List Loc} {ls : Array Slot} (hI : lw_I K1 K2 P a B mo o s mu ra H locs) (hl : lv_has ls 8 (lw_lv b a mo o i)) (hN : lw_N p l e s m below meth c b K1 K2 P a B mo o i cells slots Q) : W p l e room_1 s m #[Value.ref b] below meth c H locs cells slots Q (F0 m 805 ls []) := by
  obtain ⟨C1, C2, hX, hbl, hL, hd12, ho1, ho2, hoA⟩ := X
  obtain ⟨E1, z1, sg, E2, z2, th, rg, ov, hbk, hS, hiv, hv, hiv2, hw1, hw2, ho⟩ := hI
  have hx := C1.1
  have hb := C1.2.1
  have hown := C1.2.2.2.1
  have hts := C1.2.2.2.2.1
  have hA : ∀ q, s.heap.size ≤ q → lw_Af s q := fun _ h => h
  have hbA : ¬ lw_Af s b := Nat.not_le.mpr hbl
  have hd21 : ∀ q, q ∈ bd_L K2 → q ∉ bd_L K1 := fun q h2 h1 => hd12 q h1 h2
  have h0 := lv_at hl 0 rfl
  have h4 := lv_at hl 4 rfl
  refine lv_aload_n hx hb dL_law_805 rfl (lv_at hl 1 rfl) ?_
  refine lw_rd (k := 1) hx hb hX hbl hbA hw1.2.2 h0 h4 (by omega) hL (by decide) dL_law_806 dL_law_807 dL_law_809 dL_law_810 dL_law_811 ?_
  refine lw_rd (k := 2) hx hb hX hbl hbA hw1.2.2 h0 h4 (by omega) hL (by decide) dL_law_812 dL_law_813 dL_law_815 dL_law_816 dL_law_817 ?_
  refine lw_ci (As := [.int (xs (i + 1)), .int (xs (i + 2))]) (rest := []) C1 hA (c4_lies _ _ _ _ _ hbk hS hiv (xs (i + 1)) (xs (i + 2))) (cwV 2 hts gL_law_X4_lies rfl rfl rfl (by decide +kernel) ⟨Nat.le_of_ble_eq_true rfl, Nat.le_of_ble_eq_true rfl⟩) hw1 (bk_recv C1 hw1 hbk) dL_law_818 rfl hl.1 rfl (Nat.le_of_ble_eq_true rfl) ⟨Nat.le_of_succ_le hc, Nat.le_trans (Nat.le_add_right _ _) hs⟩ (fun r1 E1 z1 H1 locs1 hp1 hw1 hk1 => ?_)
  have hw2 := lw_keep hw2 hk1 hd21 hw1.2.2
  have ho := lw_keepo ho hk1 ho1
  refine lv_aload_n hx hb dL_law_821 rfl (lv_at hl 2 rfl) ?_
  refine lw_rd (k := 1) hx hb hX hbl hbA hw1.2.2 h0 h4 (by omega) hL (by decide) dL_law_822 dL_law_823 dL_law_825 dL_law_826 dL_law_827 ?_
  refine lw_rd (k := 2) hx hb hX hbl hbA hw1.2.2 h0 h4 (by omega) hL (by decide) dL_law_828 dL_law_829 dL_law_831 dL_law_832 dL_law_833 ?_
  refine lw_ci (As := [.int (xs (i + 1)), .int (xs (i + 2))]) (rest := [.int r1]) C2 hA (v5_lies _ _ _ _ _ hv hiv2 (xs (i + 1)) (xs (i + 2))) (cwV 2 hts gL_law_X5_lies rfl rfl rfl (by decide +kernel) ⟨Nat.le_of_ble_eq_true rfl, Nat.le_of_ble_eq_true rfl⟩) hw2 (mv_recv C2 hw2 hv) dL_law_834 rfl hl.1 rfl (Nat.le_of_ble_eq_true rfl) ⟨Nat.le_of_succ_le hc, Nat.le_trans (Nat.le_add_right _ _) hs⟩ (fun r2 E2 z2 H2 locs2 hp2 hw2 hk2 => ?_)
  have hw1 := lw_keep hw1 hk2 hd12 hw2.2.2
  have ho := lw_keepo ho hk2 ho2
  obtain ⟨hr, hI⟩ := lw_fin hp1 hp2 hw1 hw2 ho
  refine lv_icmp_eq (tgt := 1121) hx hb dL_law_837 (by decide) (fun _ => ?_) (fun h => absurd hr h)
  exact W.widen (Nat.le_add_right _ _) (Nat.le_add_right _ _) (hN _ _ _ _ _ hI hl)
set_option maxHeartbeats 4000000 in
set_option maxRecDepth 100000 in
theorem lw_k_holds {p : Program} {l : Launch} {e : Env} {s : State} {m : MethodId} {below : List Frame} {meth : Method} {c : Code} {b L : Nat} {xs : Nat → Int32} {K1 K2 : Cxt} {P : Nat} {a B mo : Nat → Nat} {o i cells slots : Nat} {Q : State → Prop} (X : lw_X p s m c b L xs K1 K2 o) (hi : i + 5 < L) (hc : cells + 1 ≤ 601024) (hs : slots + 6 ≤ 7293000) {mu ra : Nat → Int} {H : Heap} {locs : List Loc} {ls : Array Slot} (hI : lw_I K1 K2 P a B mo o s mu ra H locs) (hl : lv_has ls 8 (lw_lv b a mo o i)) (hN : lw_N p l e s m below meth c b K1 K2 P a B mo o i cells slots Q) : W p l e room_1 s m #[Value.ref b] below meth c H locs cells slots Q (F0 m 842 ls []) := by
  obtain ⟨C1, C2, hX, hbl, hL, hd12, ho1, ho2, hoA⟩ := X
  obtain ⟨E1, z1, sg, E2, z2, th, rg, ov, hbk, hS, hiv, hv, hiv2, hw1, hw2, ho⟩ := hI
  have hx := C1.1
  have hb := C1.2.1
  have hown := C1.2.2.2.1
  have hts := C1.2.2.2.2.1
  have hA : ∀ q, s.heap.size ≤ q → lw_Af s q := fun _ h => h
  have hbA : ¬ lw_Af s b := Nat.not_le.mpr hbl
  have hd21 : ∀ q, q ∈ bd_L K2 → q ∉ bd_L K1 := fun q h2 h1 => hd12 q h1 h2
  have h0 := lv_at hl 0 rfl
  have h4 := lv_at hl 4 rfl
  have hcst : Cond.constantLong RL 27 4294967295 ∈ wsL_law := by decide +kernel
  refine lv_aload_n hx hb dL_law_842 rfl (lv_at hl 1 rfl) ?_
  refine lw_rd (k := 1) hx hb hX hbl hbA hw1.2.2 h0 h4 (by omega) hL (by decide) dL_law_843 dL_law_844 dL_law_846 dL_law_847 dL_law_848 ?_
  refine lw_rdL (own := RL) (k := 2) hx hb hown (hts _ hcst) hX hbl hbA hw1.2.2 h0 h4 (by omega) hL (by decide) (by decide) dL_law_849 dL_law_850 dL_law_852 dL_law_853 dL_law_854 dL_law_855 dL_law_856 dL_law_858 dL_law_859 dL_law_860 dL_law_862 dL_law_863 dL_law_864 dL_law_865 dL_law_866 dL_law_869 dL_law_870 ?_
  refine lw_rdL (own := RL) (k := 4) hx hb hown (hts _ hcst) hX hbl hbA hw1.2.2 h0 h4 (by omega) hL (by decide) (by decide) dL_law_871 dL_law_872 dL_law_874 dL_law_875 dL_law_876 dL_law_877 dL_law_878 dL_law_880 dL_law_881 dL_law_882 dL_law_884 dL_law_885 dL_law_886 dL_law_887 dL_law_888 dL_law_891 dL_law_892 ?_
  refine lw_ci (As := [.int (xs (i + 1)), .long (lw_j (xs (i + 2)) (xs (i + (2 + 1)))), .long (lw_j (xs (i + 4)) (xs (i + (4 + 1))))]) (rest := []) C1 hA (c4_holds _ _ _ _ _ hbk hS hiv (xs (i + 1)) (lw_j (xs (i + 2)) (xs (i + (2 + 1)))) (lw_j (xs (i + 4)) (xs (i + (4 + 1))))) (cwV 3 hts gL_law_X4_holds rfl rfl rfl (by decide +kernel) ⟨Nat.le_of_ble_eq_true rfl, Nat.le_of_ble_eq_true rfl⟩) hw1 (bk_recv C1 hw1 hbk) dL_law_893 rfl hl.1 rfl (Nat.le_of_ble_eq_true rfl) ⟨Nat.le_of_succ_le hc, Nat.le_trans (Nat.le_add_right _ _) hs⟩ (fun r1 E1 z1 H1 locs1 hp1 hw1 hk1 => ?_)
  have hw2 := lw_keep hw2 hk1 hd21 hw1.2.2
  have ho := lw_keepo ho hk1 ho1
  refine lv_aload_n hx hb dL_law_896 rfl (lv_at hl 2 rfl) ?_
  refine lw_rd (k := 1) hx hb hX hbl hbA hw1.2.2 h0 h4 (by omega) hL (by decide) dL_law_897 dL_law_898 dL_law_900 dL_law_901 dL_law_902 ?_
  refine lw_rdL (own := RL) (k := 2) hx hb hown (hts _ hcst) hX hbl hbA hw1.2.2 h0 h4 (by omega) hL (by decide) (by decide) dL_law_903 dL_law_904 dL_law_906 dL_law_907 dL_law_908 dL_law_909 dL_law_910 dL_law_912 dL_law_913 dL_law_914 dL_law_916 dL_law_917 dL_law_918 dL_law_919 dL_law_920 dL_law_923 dL_law_924 ?_
  refine lw_rdL (own := RL) (k := 4) hx hb hown (hts _ hcst) hX hbl hbA hw1.2.2 h0 h4 (by omega) hL (by decide) (by decide) dL_law_925 dL_law_926 dL_law_928 dL_law_929 dL_law_930 dL_law_931 dL_law_932 dL_law_934 dL_law_935 dL_law_936 dL_law_938 dL_law_939 dL_law_940 dL_law_941 dL_law_942 dL_law_945 dL_law_946 ?_
  refine lw_ci (As := [.int (xs (i + 1)), .long (lw_j (xs (i + 2)) (xs (i + (2 + 1)))), .long (lw_j (xs (i + 4)) (xs (i + (4 + 1))))]) (rest := [.int r1]) C2 hA (v5_holds _ _ _ _ _ hv hiv2 (xs (i + 1)) (lw_j (xs (i + 2)) (xs (i + (2 + 1)))) (lw_j (xs (i + 4)) (xs (i + (4 + 1))))) (cwV 3 hts gL_law_X5_holds rfl rfl rfl (by decide +kernel) ⟨Nat.le_of_ble_eq_true rfl, Nat.le_of_ble_eq_true rfl⟩) hw2 (mv_recv C2 hw2 hv) dL_law_947 rfl hl.1 rfl (Nat.le_of_ble_eq_true rfl) ⟨Nat.le_of_succ_le hc, Nat.le_trans (Nat.le_add_right _ _) hs⟩ (fun r2 E2 z2 H2 locs2 hp2 hw2 hk2 => ?_)
  have hw1 := lw_keep hw1 hk2 hd12 hw2.2.2
  have ho := lw_keepo ho hk2 ho2
  obtain ⟨hr, hI⟩ := lw_fin hp1 hp2 hw1 hw2 ho
  refine lv_icmp_eq (tgt := 1121) hx hb dL_law_950 (by decide) (fun _ => ?_) (fun h => absurd hr h)
  exact W.widen (Nat.le_add_right _ _) (Nat.le_add_right _ _) (hN _ _ _ _ _ hI hl)
set_option maxHeartbeats 4000000 in
set_option maxRecDepth 100000 in
theorem lw_k_digit {p : Program} {l : Launch} {e : Env} {s : State} {m : MethodId} {below : List Frame} {meth : Method} {c : Code} {b L : Nat} {xs : Nat → Int32} {K1 K2 : Cxt} {P : Nat} {a B mo : Nat → Nat} {o i cells slots : Nat} {Q : State → Prop} (X : lw_X p s m c b L xs K1 K2 o) (hi : i + 5 < L) (hc : cells + 1 ≤ 601024) (hs : slots + 6 ≤ 7293000) {mu ra : Nat → Int} {H : Heap} {locs : List Loc} {ls : Array Slot} (hI : lw_I K1 K2 P a B mo o s mu ra H locs) (hl : lv_has ls 8 (lw_lv b a mo o i)) (hN : lw_N p l e s m below meth c b K1 K2 P a B mo o i cells slots Q) : W p l e room_1 s m #[Value.ref b] below meth c H locs cells slots Q (F0 m 1034 ls []) := by
  obtain ⟨C1, C2, hX, hbl, hL, hd12, ho1, ho2, hoA⟩ := X
  obtain ⟨E1, z1, sg, E2, z2, th, rg, ov, hbk, hS, hiv, hv, hiv2, hw1, hw2, ho⟩ := hI
  have hx := C1.1
  have hb := C1.2.1
  have hown := C1.2.2.2.1
  have hts := C1.2.2.2.2.1
  have hA : ∀ q, s.heap.size ≤ q → lw_Af s q := fun _ h => h
  have hbA : ¬ lw_Af s b := Nat.not_le.mpr hbl
  have hd21 : ∀ q, q ∈ bd_L K2 → q ∉ bd_L K1 := fun q h2 h1 => hd12 q h1 h2
  have h0 := lv_at hl 0 rfl
  have h4 := lv_at hl 4 rfl
  refine lv_aload_n hx hb dL_law_1034 rfl (lv_at hl 1 rfl) ?_
  refine lw_rd (k := 1) hx hb hX hbl hbA hw1.2.2 h0 h4 (by omega) hL (by decide) dL_law_1035 dL_law_1036 dL_law_1038 dL_law_1039 dL_law_1040 ?_
  refine lw_rd (k := 2) hx hb hX hbl hbA hw1.2.2 h0 h4 (by omega) hL (by decide) dL_law_1041 dL_law_1042 dL_law_1044 dL_law_1045 dL_law_1046 ?_
  refine lw_ci (As := [.int (xs (i + 1)), .int (xs (i + 2))]) (rest := []) C1 hA (c4_digit _ _ _ _ _ hbk hS hiv (xs (i + 1)) (xs (i + 2))) (cwV 2 hts gL_law_X4_digit rfl rfl rfl (by decide +kernel) ⟨Nat.le_of_ble_eq_true rfl, Nat.le_of_ble_eq_true rfl⟩) hw1 (bk_recv C1 hw1 hbk) dL_law_1047 rfl hl.1 rfl (Nat.le_of_ble_eq_true rfl) ⟨Nat.le_of_succ_le hc, Nat.le_trans (Nat.le_add_right _ _) hs⟩ (fun r1 E1 z1 H1 locs1 hp1 hw1 hk1 => ?_)
  have hw2 := lw_keep hw2 hk1 hd21 hw1.2.2
  have ho := lw_keepo ho hk1 ho1
  refine lv_aload_n hx hb dL_law_1050 rfl (lv_at hl 2 rfl) ?_
  refine lw_rd (k := 1) hx hb hX hbl hbA hw1.2.2 h0 h4 (by omega) hL (by decide) dL_law_1051 dL_law_1052 dL_law_1054 dL_law_1055 dL_law_1056 ?_
  refine lw_rd (k := 2) hx hb hX hbl hbA hw1.2.2 h0 h4 (by omega) hL (by decide) dL_law_1057 dL_law_1058 dL_law_1060 dL_law_1061 dL_law_1062 ?_
  refine lw_ci (As := [.int (xs (i + 1)), .int (xs (i + 2))]) (rest := [.int r1]) C2 hA (v5_digit _ _ _ _ _ hv hiv2 (xs (i + 1)) (xs (i + 2))) (cwV 2 hts gL_law_X5_digit rfl rfl rfl (by decide +kernel) ⟨Nat.le_of_ble_eq_true rfl, Nat.le_of_ble_eq_true rfl⟩) hw2 (mv_recv C2 hw2 hv) dL_law_1063 rfl hl.1 rfl (Nat.le_of_ble_eq_true rfl) ⟨Nat.le_of_succ_le hc, Nat.le_trans (Nat.le_add_right _ _) hs⟩ (fun r2 E2 z2 H2 locs2 hp2 hw2 hk2 => ?_)
  have hw1 := lw_keep hw1 hk2 hd12 hw2.2.2
  have ho := lw_keepo ho hk2 ho2
  obtain ⟨hr, hI⟩ := lw_fin hp1 hp2 hw1 hw2 ho
  refine lv_icmp_eq (tgt := 1121) hx hb dL_law_1066 (by decide) (fun _ => ?_) (fun h => absurd hr h)
  exact W.widen (Nat.le_add_right _ _) (Nat.le_add_right _ _) (hN _ _ _ _ _ hI hl)
set_option maxHeartbeats 4000000 in
set_option maxRecDepth 100000 in
theorem lw_k_sure {p : Program} {l : Launch} {e : Env} {s : State} {m : MethodId} {below : List Frame} {meth : Method} {c : Code} {b L : Nat} {xs : Nat → Int32} {K1 K2 : Cxt} {P : Nat} {a B mo : Nat → Nat} {o i cells slots : Nat} {Q : State → Prop} (X : lw_X p s m c b L xs K1 K2 o) (hi : i + 5 < L) (hc : cells + 1 ≤ 601024) (hs : slots + 6 ≤ 7293000) {mu ra : Nat → Int} {H : Heap} {locs : List Loc} {ls : Array Slot} (hI : lw_I K1 K2 P a B mo o s mu ra H locs) (hl : lv_has ls 8 (lw_lv b a mo o i)) (hN : lw_N p l e s m below meth c b K1 K2 P a B mo o i cells slots Q) : W p l e room_1 s m #[Value.ref b] below meth c H locs cells slots Q (F0 m 1071 ls []) := by
  obtain ⟨C1, C2, hX, hbl, hL, hd12, ho1, ho2, hoA⟩ := X
  obtain ⟨E1, z1, sg, E2, z2, th, rg, ov, hbk, hS, hiv, hv, hiv2, hw1, hw2, ho⟩ := hI
  have hx := C1.1
  have hb := C1.2.1
  have hown := C1.2.2.2.1
  have hts := C1.2.2.2.2.1
  have hA : ∀ q, s.heap.size ≤ q → lw_Af s q := fun _ h => h
  have hbA : ¬ lw_Af s b := Nat.not_le.mpr hbl
  have hd21 : ∀ q, q ∈ bd_L K2 → q ∉ bd_L K1 := fun q h2 h1 => hd12 q h1 h2
  have h0 := lv_at hl 0 rfl
  have h4 := lv_at hl 4 rfl
  refine lv_aload_n hx hb dL_law_1071 rfl (lv_at hl 1 rfl) ?_
  refine lw_rd (k := 1) hx hb hX hbl hbA hw1.2.2 h0 h4 (by omega) hL (by decide) dL_law_1072 dL_law_1073 dL_law_1075 dL_law_1076 dL_law_1077 ?_
  refine lw_ci (As := [.int (xs (i + 1))]) (rest := []) C1 hA (c4_sure _ _ _ _ _ hbk hS hiv (xs (i + 1))) (cwV 1 hts gL_law_X4_sure rfl rfl rfl (by decide +kernel) ⟨Nat.le_of_ble_eq_true rfl, Nat.le_of_ble_eq_true rfl⟩) hw1 (bk_recv C1 hw1 hbk) dL_law_1078 rfl hl.1 rfl (Nat.le_of_ble_eq_true rfl) ⟨Nat.le_of_succ_le hc, Nat.le_trans (Nat.le_add_right _ _) hs⟩ (fun r1 E1 z1 H1 locs1 hp1 hw1 hk1 => ?_)
  have hw2 := lw_keep hw2 hk1 hd21 hw1.2.2
  have ho := lw_keepo ho hk1 ho1
  refine lv_aload_n hx hb dL_law_1081 rfl (lv_at hl 2 rfl) ?_
  refine lw_rd (k := 1) hx hb hX hbl hbA hw1.2.2 h0 h4 (by omega) hL (by decide) dL_law_1082 dL_law_1083 dL_law_1085 dL_law_1086 dL_law_1087 ?_
  refine lw_ci (As := [.int (xs (i + 1))]) (rest := [.int r1]) C2 hA (v5_sure _ _ _ _ _ hv hiv2 (xs (i + 1))) (cwV 1 hts gL_law_X5_sure rfl rfl rfl (by decide +kernel) ⟨Nat.le_of_ble_eq_true rfl, Nat.le_of_ble_eq_true rfl⟩) hw2 (mv_recv C2 hw2 hv) dL_law_1088 rfl hl.1 rfl (Nat.le_of_ble_eq_true rfl) ⟨Nat.le_of_succ_le hc, Nat.le_trans (Nat.le_add_right _ _) hs⟩ (fun r2 E2 z2 H2 locs2 hp2 hw2 hk2 => ?_)
  have hw1 := lw_keep hw1 hk2 hd12 hw2.2.2
  have ho := lw_keepo ho hk2 ho2
  obtain ⟨hr, hI⟩ := lw_fin hp1 hp2 hw1 hw2 ho
  refine lv_icmp_eq (tgt := 1121) hx hb dL_law_1091 (by decide) (fun _ => ?_) (fun h => absurd hr h)
  exact W.widen (Nat.le_add_right _ _) (Nat.le_add_right _ _) (hN _ _ _ _ _ hI hl)
set_option maxHeartbeats 4000000 in
set_option maxRecDepth 100000 in
theorem lw_k_count {p : Program} {l : Launch} {e : Env} {s : State} {m : MethodId} {below : List Frame} {meth : Method} {c : Code} {b L : Nat} {xs : Nat → Int32} {K1 K2 : Cxt} {P : Nat} {a B mo : Nat → Nat} {o i cells slots : Nat} {Q : State → Prop} (X : lw_X p s m c b L xs K1 K2 o) (hi : i + 5 < L) (hc : cells + 1 ≤ 601024) (hs : slots + 6 ≤ 7293000) {mu ra : Nat → Int} {H : Heap} {locs : List Loc} {ls : Array Slot} (hI : lw_I K1 K2 P a B mo o s mu ra H locs) (hl : lv_has ls 8 (lw_lv b a mo o i)) (hN : lw_N p l e s m below meth c b K1 K2 P a B mo o i cells slots Q) : W p l e room_1 s m #[Value.ref b] below meth c H locs cells slots Q (F0 m 1096 ls []) := by
  obtain ⟨C1, C2, hX, hbl, hL, hd12, ho1, ho2, hoA⟩ := X
  obtain ⟨E1, z1, sg, E2, z2, th, rg, ov, hbk, hS, hiv, hv, hiv2, hw1, hw2, ho⟩ := hI
  have hx := C1.1
  have hb := C1.2.1
  have hown := C1.2.2.2.1
  have hts := C1.2.2.2.2.1
  have hA : ∀ q, s.heap.size ≤ q → lw_Af s q := fun _ h => h
  have hbA : ¬ lw_Af s b := Nat.not_le.mpr hbl
  have hd21 : ∀ q, q ∈ bd_L K2 → q ∉ bd_L K1 := fun q h2 h1 => hd12 q h1 h2
  have h0 := lv_at hl 0 rfl
  have h4 := lv_at hl 4 rfl
  refine lv_aload_n hx hb dL_law_1096 rfl (lv_at hl 1 rfl) ?_
  refine lw_rd (k := 1) hx hb hX hbl hbA hw1.2.2 h0 h4 (by omega) hL (by decide) dL_law_1097 dL_law_1098 dL_law_1100 dL_law_1101 dL_law_1102 ?_
  refine lw_ci (As := [.int (xs (i + 1))]) (rest := []) C1 hA (c4_count _ _ _ _ _ hbk hS hiv (xs (i + 1))) (cwV 1 hts gL_law_X4_count rfl rfl rfl (by decide +kernel) ⟨Nat.le_of_ble_eq_true rfl, Nat.le_of_ble_eq_true rfl⟩) hw1 (bk_recv C1 hw1 hbk) dL_law_1103 rfl hl.1 rfl (Nat.le_of_ble_eq_true rfl) ⟨Nat.le_of_succ_le hc, Nat.le_trans (Nat.le_add_right _ _) hs⟩ (fun r1 E1 z1 H1 locs1 hp1 hw1 hk1 => ?_)
  have hw2 := lw_keep hw2 hk1 hd21 hw1.2.2
  have ho := lw_keepo ho hk1 ho1
  refine lv_aload_n hx hb dL_law_1106 rfl (lv_at hl 2 rfl) ?_
  refine lw_rd (k := 1) hx hb hX hbl hbA hw1.2.2 h0 h4 (by omega) hL (by decide) dL_law_1107 dL_law_1108 dL_law_1110 dL_law_1111 dL_law_1112 ?_
  refine lw_ci (As := [.int (xs (i + 1))]) (rest := [.int r1]) C2 hA (v5_count _ _ _ _ _ hv hiv2 (xs (i + 1))) (cwV 1 hts gL_law_X5_count rfl rfl rfl (by decide +kernel) ⟨Nat.le_of_ble_eq_true rfl, Nat.le_of_ble_eq_true rfl⟩) hw2 (mv_recv C2 hw2 hv) dL_law_1113 rfl hl.1 rfl (Nat.le_of_ble_eq_true rfl) ⟨Nat.le_of_succ_le hc, Nat.le_trans (Nat.le_add_right _ _) hs⟩ (fun r2 E2 z2 H2 locs2 hp2 hw2 hk2 => ?_)
  have hw1 := lw_keep hw1 hk2 hd12 hw2.2.2
  have ho := lw_keepo ho hk2 ho2
  obtain ⟨hr, hI⟩ := lw_fin hp1 hp2 hw1 hw2 ho
  refine lv_icmp_eq (tgt := 1121) hx hb dL_law_1116 (by decide) (fun _ => ?_) (fun h => absurd hr h)
  exact W.widen (Nat.le_add_right _ _) (Nat.le_add_right _ _) (hN _ _ _ _ _ hI hl)
