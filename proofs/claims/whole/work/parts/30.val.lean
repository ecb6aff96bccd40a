/-! VALUES: the numbers by their addresses -/
def sg_S (K : Cxt) (z : Nat → Wh) (sg : Nat → Int) : Prop := ∀ a, a ∈ bd_N K → bd_n (z a) (sg a)
section MONO
variable {l : Launch} {y : MethodName} {ws : List Cond} {rm : Room} {Pc : Array Value → State → Prop} {K : Cxt} {A : Nat → Prop} {free : Addr → Prop} {mc ms : Nat}
theorem bd_mv {p1 p2 : bd_U → Prop} {B : bd_U → State → Prop} (h : Met l y ws rm Pc (va_Qv p1 B A) mc ms free) (hp : ∀ u, p1 u → p2 u) : Met l y ws rm Pc (va_Qv p2 B A) mc ms free :=
  MetFree.mono h (fun _ _ h => h) (fun _ _ _ _ _ h => h) (fun _ _ _ _ _ q => ⟨⟨q.1.1.elim (fun u hu => ⟨u, hu.1, hp u hu.2.1, hu.2.2⟩), q.1.2⟩, q.2⟩)
theorem bd_mi {p1 p2 : Int32 → bd_U → Prop} {B : bd_U → State → Prop} (h : Met l y ws rm Pc (va_Qi p1 B A) mc ms free) (hp : ∀ r u, p1 r u → p2 r u) : Met l y ws rm Pc (va_Qi p2 B A) mc ms free :=
  MetFree.mono h (fun _ _ h => h) (fun _ _ _ _ _ h => h) (fun _ _ _ _ _ q => ⟨⟨q.1.1.elim (fun r hu => hu.elim (fun u hu => ⟨r, u, hu.1, hp r u hu.2.1, hu.2.2⟩)), q.1.2⟩, q.2⟩)
end MONO
theorem sg_up {K : Cxt} {z z1 : Nat → Wh} {sg : Nat → Int} {h : Nat} {v : Int} (hS : sg_S K z sg) (hn : bd_n (z1 h) v) (ho : ∀ b, b ≠ h → z1 b = z b) : sg_S K z1 (va_up sg h v) := by
  intro a ha
  by_cases q : a = h
  · subst q
    rw [va_up_self]
    exact hn
  · rw [va_up_ne _ _ q, ho a q]
    exact hS a ha
theorem sg_n {K : Cxt} {z : Nat → Wh} {sg : Nat → Int} {a : Nat} (hS : sg_S K z sg) (ha : a ∈ bd_N K) : ∃ (n : Nat) (g : Int32) (f : Nat → Nat), z a = (n, g, f) ∧ bd_n (n, g, f) (sg a) := by
  obtain ⟨⟨n, g, f⟩, hz⟩ : ∃ w, z a = w := ⟨_, rfl⟩
  exact ⟨n, g, f, hz, by rw [← hz]; exact hS a ha⟩
theorem sg_q {n : Nat} {g : Int32} {f : Nat → Nat} {v : Int} (h : bd_n (n, g, f) v) : q_r f := h.1.2.1
theorem sg_sz {n k : Nat} {g : Int32} {f : Nat → Nat} {v : Int} (h : bd_n (n, g, f) v) (hv : v.natAbs < 4294967296 ^ k) : n ≤ k := bd_sz h.1.2.2.1 (by rw [bd_n_m h]; exact hv)
theorem v3_clear (l : Launch) (K : Cxt) (E : Nat → va_E) (z : Nat → Wh) (sz : Nat) {sg : Nat → Int} (hS : sg_S K z sg) (h : Nat) (hh : h ∈ bd_N K) : Met l yX3_clear wsX3_clear ({ frames := 0, cells := 0, slots := 0, locals := 0 }) (va_Pc [.ref h] (bd_P K E z sz)) (va_Qv (fun u => u.1 = E ∧ sg_S K u.2 (va_up sg h (0))) (bd_B K) (bd_A K sz)) 0 0 (bd_A K sz) := by
  obtain ⟨n, g, f, hz, hn⟩ := sg_n hS hh
  exact bd_mv (c3_clear l K E z sz h hh hz) (fun u q => ⟨q.1, sg_up hS (by rw [q.2.1]; exact ⟨⟨Nat.zero_le _, sg_q hn, fun q => absurd q (Nat.lt_irrefl 0), Or.inl ⟨rfl, rfl⟩⟩, rfl⟩) q.2.2⟩)
theorem v3_turn (l : Launch) (K : Cxt) (E : Nat → va_E) (z : Nat → Wh) (sz : Nat) {sg : Nat → Int} (hS : sg_S K z sg) (h : Nat) (hh : h ∈ bd_N K) : Met l yX3_turn wsX3_turn ({ frames := 0, cells := 0, slots := 0, locals := 0 }) (va_Pc [.ref h] (bd_P K E z sz)) (va_Qv (fun u => u.1 = E ∧ sg_S K u.2 (va_up sg h (-sg h))) (bd_B K) (bd_A K sz)) 0 0 (bd_A K sz) := by
  obtain ⟨n, g, f, hz, hn⟩ := sg_n hS hh
  exact bd_mv (c3_turn l K E z sz h hh hz) (fun u q => ⟨q.1, sg_up hS (by rw [q.2.1]; exact bd_n_turn hn) q.2.2⟩)
theorem v3_dropSign (l : Launch) (K : Cxt) (E : Nat → va_E) (z : Nat → Wh) (sz : Nat) {sg : Nat → Int} (hS : sg_S K z sg) (h : Nat) (hh : h ∈ bd_N K) : Met l yX3_dropSign wsX3_dropSign ({ frames := 1, cells := 0, slots := 0, locals := 30 }) (va_Pc [.ref h] (bd_P K E z sz)) (va_Qv (fun u => u.1 = E ∧ sg_S K u.2 (va_up sg h (((sg h).natAbs : Int)))) (bd_B K) (bd_A K sz)) 0 0 (bd_A K sz) := by
  obtain ⟨n, g, f, hz, hn⟩ := sg_n hS hh
  exact bd_mv (c3_dropSign l K E z sz h hh hz) (fun u q => ⟨q.1, sg_up hS (by rw [q.2.1]; exact bd_n_abs hn) q.2.2⟩)
theorem v3_become_ (l : Launch) (K : Cxt) (E : Nat → va_E) (z : Nat → Wh) (sz : Nat) {sg : Nat → Int} (hS : sg_S K z sg) (h : Nat) (x : Nat) (hh : h ∈ bd_N K) (hmx : x ∈ bd_N K) : Met l yX3_become_ wsX3_become_ ({ frames := 1, cells := 0, slots := 0, locals := 40 }) (va_Pc [.ref h, .ref x] (bd_P K E z sz)) (va_Qv (fun u => u.1 = E ∧ sg_S K u.2 (va_up sg h (sg x))) (bd_B K) (bd_A K sz)) 0 0 (bd_A K sz) := by
  obtain ⟨n, g, f, hz, hn⟩ := sg_n hS hh
  obtain ⟨nx, gx, fx, hzx, hnx⟩ := sg_n hS hmx
  exact bd_mv (c3_become_ l K E z sz h x hh hmx hz hzx (sg_q hn) hnx) (fun u q => ⟨q.1, sg_up hS q.2.1 q.2.2⟩)
theorem v3_become (l : Launch) (K : Cxt) (E : Nat → va_E) (z : Nat → Wh) (sz : Nat) {sg : Nat → Int} (hS : sg_S K z sg) (h : Nat) (v : Int64) (hh : h ∈ bd_N K) : Met l yX3_become wsX3_become ({ frames := 1, cells := 0, slots := 0, locals := 30 }) (va_Pc [.ref h, .long v] (bd_P K E z sz)) (va_Qv (fun u => u.1 = E ∧ sg_S K u.2 (va_up sg h (v.toInt))) (bd_B K) (bd_A K sz)) 0 0 (bd_A K sz) := by
  obtain ⟨n, g, f, hz, hn⟩ := sg_n hS hh
  exact bd_mv (c3_become l K E z sz h v hh hz (sg_q hn)) (fun u q => ⟨q.1, sg_up hS q.2.1 q.2.2⟩)
theorem v3_becomePower (l : Launch) (K : Cxt) (E : Nat → va_E) (z : Nat → Wh) (sz : Nat) {sg : Nat → Int} (hS : sg_S K z sg) (h : Nat) (k : Nat) (hh : h ∈ bd_N K) (hk : k < 768) : Met l yX3_becomePower wsX3_becomePower ({ frames := 1, cells := 0, slots := 0, locals := 30 }) (va_Pc [.ref h, .int (nI k)] (bd_P K E z sz)) (va_Qv (fun u => u.1 = E ∧ sg_S K u.2 (va_up sg h (((2 ^ k : Nat) : Int)))) (bd_B K) (bd_A K sz)) 0 0 (bd_A K sz) := by
  obtain ⟨n, g, f, hz, hn⟩ := sg_n hS hh
  exact bd_mv (c3_becomePower l K E z sz h k hh hz (sg_q hn) hk) (fun u q => ⟨q.1, sg_up hS q.2.1 q.2.2⟩)
theorem v3_sum (l : Launch) (K : Cxt) (E : Nat → va_E) (z : Nat → Wh) (sz : Nat) {sg : Nat → Int} (hS : sg_S K z sg) (h : Nat) (x y : Nat) (hh : h ∈ bd_N K) (hmx : x ∈ bd_N K) (hmy : y ∈ bd_N K) (hs : (sg x).natAbs + (sg y).natAbs < 4294967296 ^ 24) : Met l yX3_sum wsX3_sum ({ frames := 3, cells := 0, slots := 0, locals := 90 }) (va_Pc [.ref h, .ref x, .ref y] (bd_P K E z sz)) (va_Qv (fun u => u.1 = E ∧ sg_S K u.2 (va_up sg h (sg x + sg y))) (bd_B K) (bd_A K sz)) 0 0 (bd_A K sz) := by
  obtain ⟨n, g, f, hz, hn⟩ := sg_n hS hh
  obtain ⟨nx, gx, fx, hzx, hnx⟩ := sg_n hS hmx
  obtain ⟨ny, gy, fy, hzy, hny⟩ := sg_n hS hmy
  rw [← bd_n_m hnx, ← bd_n_m hny] at hs
  exact bd_mv (c3_sum l K E z sz h x y hh hmx hmy hz hzx hzy (sg_q hn) hnx.1 hny.1 hs) (fun u q => ⟨q.1, sg_up hS (by rw [← hnx.2, ← hny.2]; exact q.2.1) q.2.2⟩)
theorem v3_difference (l : Launch) (K : Cxt) (E : Nat → va_E) (z : Nat → Wh) (sz : Nat) {sg : Nat → Int} (hS : sg_S K z sg) (h : Nat) (x y : Nat) (hh : h ∈ bd_N K) (hmx : x ∈ bd_N K) (hmy : y ∈ bd_N K) (hs : (sg x).natAbs + (sg y).natAbs < 4294967296 ^ 24) : Met l yX3_difference wsX3_difference ({ frames := 3, cells := 0, slots := 0, locals := 90 }) (va_Pc [.ref h, .ref x, .ref y] (bd_P K E z sz)) (va_Qv (fun u => u.1 = E ∧ sg_S K u.2 (va_up sg h (sg x - sg y))) (bd_B K) (bd_A K sz)) 0 0 (bd_A K sz) := by
  obtain ⟨n, g, f, hz, hn⟩ := sg_n hS hh
  obtain ⟨nx, gx, fx, hzx, hnx⟩ := sg_n hS hmx
  obtain ⟨ny, gy, fy, hzy, hny⟩ := sg_n hS hmy
  rw [← bd_n_m hnx, ← bd_n_m hny] at hs
  exact bd_mv (c3_difference l K E z sz h x y hh hmx hmy hz hzx hzy (sg_q hn) hnx.1 hny.1 hs) (fun u q => ⟨q.1, sg_up hS (by rw [← hnx.2, ← hny.2]; exact q.2.1) q.2.2⟩)
theorem v3_product (l : Launch) (K : Cxt) (E : Nat → va_E) (z : Nat → Wh) (sz : Nat) {sg : Nat → Int} (hS : sg_S K z sg) (h : Nat) (x y i j : Nat) (hh : h ∈ bd_N K) (hmx : x ∈ bd_N K) (hmy : y ∈ bd_N K) (hxh : x ≠ h) (hyh : y ≠ h) (hi : (sg x).natAbs < 4294967296 ^ i) (hj : (sg y).natAbs < 4294967296 ^ j) (hij : i + j ≤ 24) : Met l yX3_product wsX3_product ({ frames := 1, cells := 0, slots := 0, locals := 30 }) (va_Pc [.ref h, .ref x, .ref y] (bd_P K E z sz)) (va_Qv (fun u => u.1 = E ∧ sg_S K u.2 (va_up sg h (sg x * sg y))) (bd_B K) (bd_A K sz)) 0 0 (bd_A K sz) := by
  obtain ⟨n, g, f, hz, hn⟩ := sg_n hS hh
  obtain ⟨nx, gx, fx, hzx, hnx⟩ := sg_n hS hmx
  obtain ⟨ny, gy, fy, hzy, hny⟩ := sg_n hS hmy
  have h1 := sg_sz hnx hi
  have h2 := sg_sz hny hj
  exact bd_mv (c3_product l K E z sz h x y hh hmx hmy hxh hyh hz hzx hzy (sg_q hn) hnx.1 hny.1 (by omega)) (fun u q => ⟨q.1, sg_up hS (by rw [← hnx.2, ← hny.2]; exact q.2.1) q.2.2⟩)
theorem v3_multiply (l : Launch) (K : Cxt) (E : Nat → va_E) (z : Nat → Wh) (sz : Nat) {sg : Nat → Int} (hS : sg_S K z sg) (h : Nat) (bx : Int32) (hh : h ∈ bd_N K) (hm : (sg h).natAbs * bx.toInt.natAbs < 4294967296 ^ 24) : Met l yX3_multiply wsX3_multiply ({ frames := 1, cells := 0, slots := 0, locals := 30 }) (va_Pc [.ref h, .int bx] (bd_P K E z sz)) (va_Qv (fun u => u.1 = E ∧ sg_S K u.2 (va_up sg h (sg h * bx.toInt))) (bd_B K) (bd_A K sz)) 0 0 (bd_A K sz) := by
  obtain ⟨n, g, f, hz, hn⟩ := sg_n hS hh
  rw [← bd_n_m hn] at hm
  exact bd_mv (c3_multiply l K E z sz h bx hh hz hn.1 hm) (fun u q => ⟨q.1, sg_up hS (by rw [← hn.2]; exact q.2.1) q.2.2⟩)
theorem v3_divide (l : Launch) (K : Cxt) (E : Nat → va_E) (z : Nat → Wh) (sz : Nat) {sg : Nat → Int} (hS : sg_S K z sg) (h : Nat) (b : Nat) (hh : h ∈ bd_N K) (hb0 : 0 < b) (hb31 : b < 2 ^ 31) (hb2 : (sg h).natAbs + 1 < 4294967296 ^ 24) : Met l yX3_divide wsX3_divide ({ frames := 1, cells := 0, slots := 0, locals := 30 }) (va_Pc [.ref h, .int (nI b)] (bd_P K E z sz)) (va_Qi (fun r u => r = nI ((sg h).natAbs % b) ∧ u.1 = E ∧ sg_S K u.2 (va_up sg h (sg h / (b : Int)))) (bd_B K) (bd_A K sz)) 0 0 (bd_A K sz) := by
  obtain ⟨n, g, f, hz, hn⟩ := sg_n hS hh
  rw [← bd_n_m hn] at hb2
  exact bd_mi (c3_divide l K E z sz h b hh hz hn hb0 hb31 hb2) (fun r u q => ⟨q.1, q.2.1, sg_up hS q.2.2.1 q.2.2.2⟩)
theorem v3_raise (l : Launch) (K : Cxt) (E : Nat → va_E) (z : Nat → Wh) (sz : Nat) {sg : Nat → Int} (hS : sg_S K z sg) (h : Nat) (t i : Nat) (hh : h ∈ bd_N K) (ht : t < 768) (hi : (sg h).natAbs < 4294967296 ^ i) (hit : i + t / 32 + 1 ≤ 24) : Met l yX3_raise wsX3_raise ({ frames := 2, cells := 0, slots := 0, locals := 60 }) (va_Pc [.ref h, .int (nI t)] (bd_P K E z sz)) (va_Qv (fun u => u.1 = E ∧ sg_S K u.2 (va_up sg h (sg h * ((2 ^ t : Nat) : Int)))) (bd_B K) (bd_A K sz)) 0 0 (bd_A K sz) := by
  obtain ⟨n, g, f, hz, hn⟩ := sg_n hS hh
  have h1 := sg_sz hn hi
  exact bd_mv (c3_raise l K E z sz h t hh hz hn ht (Or.inr (by omega))) (fun u q => ⟨q.1, sg_up hS q.2.1 q.2.2⟩)
theorem v3_lower (l : Launch) (K : Cxt) (E : Nat → va_E) (z : Nat → Wh) (sz : Nat) {sg : Nat → Int} (hS : sg_S K z sg) (h : Nat) (t : Nat) (hh : h ∈ bd_N K) (ht0 : 0 < t) (ht : t < 1000) : Met l yX3_lower wsX3_lower ({ frames := 1, cells := 0, slots := 0, locals := 40 }) (va_Pc [.ref h, .int (nI t)] (bd_P K E z sz)) (va_Qv (fun u => u.1 = E ∧ sg_S K u.2 (va_up sg h (sg h / ((2 ^ t : Nat) : Int)))) (bd_B K) (bd_A K sz)) 0 0 (bd_A K sz) := by
  obtain ⟨n, g, f, hz, hn⟩ := sg_n hS hh
  exact bd_mv (c3_lower l K E z sz h t hh hz hn ht0 ht) (fun u q => ⟨q.1, sg_up hS q.2.1 q.2.2⟩)
theorem v3_sign (l : Launch) (K : Cxt) (E : Nat → va_E) (z : Nat → Wh) (sz : Nat) {sg : Nat → Int} (hS : sg_S K z sg) (h : Nat) (hh : h ∈ bd_N K) : Met l yX3_sign wsX3_sign ({ frames := 0, cells := 0, slots := 0, locals := 0 }) (va_Pc [.ref h] (bd_P K E z sz)) (va_Qi (fun r u => r = q_sg (sg h) ∧ u = (E, z)) (bd_B K) (bd_A K sz)) 0 0 (bd_A K sz) := by
  obtain ⟨n, g, f, hz, hn⟩ := sg_n hS hh
  have h1 : g = q_sg (sg h) := by
    unfold q_sg
    rcases bd_n_sg hn with q | q | q
    · rw [q.1, if_neg (by omega), if_pos q.2]
    · rw [q.1, if_neg (by omega), if_neg (by omega)]
    · rw [q.1, if_pos q.2]
  rw [← h1]
  exact c3_sign l K E z sz h hh hz
theorem v3_bits (l : Launch) (K : Cxt) (E : Nat → va_E) (z : Nat → Wh) (sz : Nat) {sg : Nat → Int} (hS : sg_S K z sg) (h : Nat) (hh : h ∈ bd_N K) : Met l yX3_bits wsX3_bits ({ frames := 2, cells := 0, slots := 0, locals := 60 }) (va_Pc [.ref h] (bd_P K E z sz)) (va_Qi (fun r u => r = nI (q_bl (sg h).natAbs) ∧ u = (E, z)) (bd_B K) (bd_A K sz)) 0 0 (bd_A K sz) := by
  obtain ⟨n, g, f, hz, hn⟩ := sg_n hS hh
  rw [← bd_n_m hn]
  obtain ⟨a1, a2, a3⟩ := bd_ok_sz hn.1
  exact c3_bits l K E z sz h hh hz a1 a2 a3
theorem v3_isOdd (l : Launch) (K : Cxt) (E : Nat → va_E) (z : Nat → Wh) (sz : Nat) {sg : Nat → Int} (hS : sg_S K z sg) (h : Nat) (hh : h ∈ bd_N K) : Met l yX3_isOdd wsX3_isOdd ({ frames := 1, cells := 0, slots := 0, locals := 30 }) (va_Pc [.ref h] (bd_P K E z sz)) (va_Qi (fun r u => r = (if (sg h).natAbs % 2 = 1 then 1 else 0) ∧ u = (E, z)) (bd_B K) (bd_A K sz)) 0 0 (bd_A K sz) := by
  obtain ⟨n, g, f, hz, hn⟩ := sg_n hS hh
  rw [← bd_n_m hn]
  obtain ⟨a1, a2, a3⟩ := bd_ok_sz hn.1
  exact c3_isOdd l K E z sz h hh hz a1 a2
theorem v3_isSpent (l : Launch) (K : Cxt) (E : Nat → va_E) (z : Nat → Wh) (sz : Nat) {sg : Nat → Int} (hS : sg_S K z sg) (h : Nat) (hh : h ∈ bd_N K) : Met l yX3_isSpent wsX3_isSpent ({ frames := 0, cells := 0, slots := 0, locals := 0 }) (va_Pc [.ref h] (bd_P K E z sz)) (va_Qi (fun r u => r = (if sg h = 0 ∨ sg h = -1 then 1 else 0) ∧ u = (E, z)) (bd_B K) (bd_A K sz)) 0 0 (bd_A K sz) := by
  obtain ⟨n, g, f, hz, hn⟩ := sg_n hS hh
  exact c3_isSpent l K E z sz h hh hz hn
theorem v3_order (l : Launch) (K : Cxt) (E : Nat → va_E) (z : Nat → Wh) (sz : Nat) {sg : Nat → Int} (hS : sg_S K z sg) (h : Nat) (x : Nat) (hh : h ∈ bd_N K) (hmx : x ∈ bd_N K) : Met l yX3_order wsX3_order ({ frames := 2, cells := 0, slots := 0, locals := 60 }) (va_Pc [.ref h, .ref x] (bd_P K E z sz)) (va_Qi (fun r u => r = q_i3 (sg h) (sg x) ∧ u = (E, z)) (bd_B K) (bd_A K sz)) 0 0 (bd_A K sz) := by
  obtain ⟨n, g, f, hz, hn⟩ := sg_n hS hh
  obtain ⟨nx, gx, fx, hzx, hnx⟩ := sg_n hS hmx
  rw [← hn.2, ← hnx.2]
  exact c3_order l K E z sz h x hh hmx hz hzx hn.1 hnx.1
theorem v3_ows (l : Launch) (K : Cxt) (E : Nat → va_E) (z : Nat → Wh) (sz : Nat) {sg : Nat → Int} (hS : sg_S K z sg) (h : Nat) (x : Nat) (hh : h ∈ bd_N K) (hmx : x ∈ bd_N K) : Met l yX3_orderWithoutSign wsX3_orderWithoutSign ({ frames := 1, cells := 0, slots := 0, locals := 30 }) (va_Pc [.ref h, .ref x] (bd_P K E z sz)) (va_Qi (fun r u => r = q_c3 (sg h).natAbs (sg x).natAbs ∧ u = (E, z)) (bd_B K) (bd_A K sz)) 0 0 (bd_A K sz) := by
  obtain ⟨n, g, f, hz, hn⟩ := sg_n hS hh
  obtain ⟨nx, gx, fx, hzx, hnx⟩ := sg_n hS hmx
  rw [← bd_n_m hn, ← bd_n_m hnx]
  obtain ⟨a1, a2, a3⟩ := bd_ok_sz hn.1
  obtain ⟨b1, b2, b3⟩ := bd_ok_sz hnx.1
  exact c3_ows l K E z sz h x hh hmx hz hzx a1 b1 a2 b2 a3 b3
/-- a division's cells, whatever they hold -/
def dv_ok (K : Cxt) (E : Nat → va_E) (dv rs bs : Nat) : Prop := ∃ (ln fl : Nat) (F G : Nat → Nat), dv_at K E dv rs bs ln fl F G ∧ (∀ k, k < 25 → F k < 4294967296) ∧ (∀ k, k < 24 → G k < 4294967296)
theorem v1_quotient (l : Launch) (K : Cxt) (E : Nat → va_E) (z : Nat → Wh) (sz : Nat) {sg : Nat → Int} (hS : sg_S K z sg) (dv rs bs to a b : Nat) (hdv : dv_ok K E dv rs bs) (hmt : to ∈ bd_N K) (hma : a ∈ bd_N K) (hmb : b ∈ bd_N K) (hb0 : 0 < sg b) (hbig : (sg a).natAbs + 1 < 4294967296 ^ 24) : Met l yX1_quotient wsX1_quotient ({ frames := 3, cells := 0, slots := 0, locals := 100 }) (va_Pc [.ref dv, .ref to, .ref a, .ref b] (bd_P K E z sz)) (va_Qi (fun r u => r = nI (if sg a % sg b = 0 then 1 else 0) ∧ dv_ok K u.1 dv rs bs ∧ dv_fr dv rs bs E u.1 ∧ sg_S K u.2 (va_up sg to (sg a / sg b))) (bd_B K) (bd_A K sz)) 0 0 (bd_A K sz) := by
  obtain ⟨ln, fl, F, G, hd, hF, hG⟩ := hdv
  obtain ⟨nt, gt, ft, hzt, hnt⟩ := sg_n hS hmt
  obtain ⟨na, ga, fa, hza, hna⟩ := sg_n hS hma
  obtain ⟨nb, gb, fb, hzb, hnb⟩ := sg_n hS hmb
  exact bd_mi (c1_quotient l K E z sz dv rs bs to a b hd hF hG hmt hma hmb hzt hza hzb (sg_q hnt) hna hnb hb0 hbig) (fun r u q => ⟨q.2.2.2.2, q.1, q.2.1, sg_up hS q.2.2.1 q.2.2.2.1⟩)
