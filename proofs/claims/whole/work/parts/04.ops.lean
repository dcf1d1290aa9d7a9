/-! part 04: printed by wip/tool/gen_ops.py: the instructions of the abstract machine -/
abbrev R3 (z : Int) : Prop := -2147483648 ≤ z ∧ z ≤ 2147483647
abbrev R6 (z : Int) : Prop := -9223372036854775808 ≤ z ∧ z ≤ 9223372036854775807
theorem i3_toInt {z : Int} (h : R3 z) : (Int32.ofInt z).toInt = z := Int32.toInt_ofInt_of_le (by have := h.1; omega) (by have := h.2; omega)
theorem i6_toInt {z : Int} (h : R6 z) : (Int64.ofInt z).toInt = z := Int64.toInt_ofInt_of_le (by have := h.1; omega) (by have := h.2; omega)
theorem i3_lt {x y : Int} (hx : R3 x) (hy : R3 y) : Int32.ofInt x < Int32.ofInt y ↔ x < y := by rw [Int32.lt_iff_toInt_lt, i3_toInt hx, i3_toInt hy]
theorem i3_le {x y : Int} (hx : R3 x) (hy : R3 y) : Int32.ofInt x ≤ Int32.ofInt y ↔ x ≤ y := by rw [Int32.le_iff_toInt_le, i3_toInt hx, i3_toInt hy]
theorem i3_eq {x y : Int} (hx : R3 x) (hy : R3 y) : Int32.ofInt x = Int32.ofInt y ↔ x = y := by rw [← Int32.toInt_inj, i3_toInt hx, i3_toInt hy]
theorem i6_lt {x y : Int} (hx : R6 x) (hy : R6 y) : Int64.ofInt x < Int64.ofInt y ↔ x < y := by rw [Int64.lt_iff_toInt_lt, i6_toInt hx, i6_toInt hy]
theorem i6_eq {x y : Int} (hx : R6 x) (hy : R6 y) : Int64.ofInt x = Int64.ofInt y ↔ x = y := by rw [← Int64.toInt_inj, i6_toInt hx, i6_toInt hy]
theorem i3_of (x : Int32) : ∃ z : Int, x = Int32.ofInt z ∧ R3 z := ⟨x.toInt, (Int32.ofInt_toInt x).symm, by have := Int32.le_toInt x; omega, by have := Int32.toInt_lt x; omega⟩
theorem i6_of (x : Int64) : ∃ z : Int, x = Int64.ofInt z ∧ R6 z := ⟨x.toInt, (Int64.ofInt_toInt x).symm, by have := Int64.le_toInt x; omega, by have := Int64.toInt_lt x; omega⟩
theorem i3_zero : Int32.ofInt 0 = 0 := rfl
theorem i3_clamp {i : Int} (h0 : 0 ≤ i) (h1 : i ≤ 2147483647) : ((Int32.ofInt i).toNatClampNeg : Int) = i := by
  show ((Int32.ofInt i).toInt.toNat : Int) = i
  rw [i3_toInt ⟨by omega, h1⟩]
  omega
theorem i3_in {i : Int} {N : Nat} (h0 : 0 ≤ i) (h1 : i < N) (hN : N ≤ 2147483647) : vp_in (Int32.ofInt i) N := by
  rw [vp_in_iff, i3_toInt ⟨by omega, by omega⟩]
  omega
def cmp3 (x y : Int) : Int := if y < x then 1 else if x = y then 0 else -1
theorem cmp3_R (x y : Int) : R3 (cmp3 x y) := by
  unfold cmp3
  split
  · decide
  · split <;> decide
theorem cmp3_lt {x y : Int} : cmp3 x y < 0 ↔ x < y := by unfold cmp3; repeat' split <;> omega
theorem cmp3_ge {x y : Int} : 0 ≤ cmp3 x y ↔ y ≤ x := by unfold cmp3; repeat' split <;> omega
theorem cmp3_gt {x y : Int} : 0 < cmp3 x y ↔ y < x := by unfold cmp3; repeat' split <;> omega
theorem cmp3_le {x y : Int} : cmp3 x y ≤ 0 ↔ x ≤ y := by unfold cmp3; repeat' split <;> omega
theorem cmp3_eq {x y : Int} : cmp3 x y = 0 ↔ x = y := by unfold cmp3; repeat' split <;> omega
theorem cmp3_ne {x y : Int} : cmp3 x y ≠ 0 ↔ x ≠ y := by rw [ne_eq, cmp3_eq]
theorem lg_cmp3 {x y : Int} (hx : R6 x) (hy : R6 y) : lg_cmp (Int64.ofInt x) (Int64.ofInt y) = Int32.ofInt (cmp3 x y) := by
  unfold lg_cmp cmp3
  simp only [gt_iff_lt, i6_lt hy hx, i6_eq hx hy]
  split
  · rfl
  · split <;> rfl
theorem rl_ref (bb off : Nat) (a : Int) : ∃ x : Nat, rl bb off (Vr a) = .ref x := by
  unfold Vr rl
  cases (a + 1).toNat <;> exact ⟨_, rfl⟩
theorem i6_zero : Int64.ofInt 0 = 0 := rfl
theorem i3_divN {x y : Int} (hx0 : 0 ≤ x) (hx1 : x ≤ 2147483647) (hy0 : 0 < y) (hy1 : y ≤ 2147483647) : Int32.ofInt x / Int32.ofInt y = Int32.ofInt (x / y) := by
  rw [← Int32.toInt_inj, Int32.toInt_div, i3_toInt ⟨by omega, by omega⟩, i3_toInt ⟨by omega, by omega⟩, Int.tdiv_eq_ediv_of_nonneg hx0]
  have h1 := Int.ediv_nonneg hx0 (Int.le_of_lt hy0)
  have h2 := Int.ediv_le_self y hx0
  rw [i3_toInt ⟨by omega, by omega⟩]
  exact Int.bmod_eq_of_le (by omega) (by omega)
theorem i6_divT {x y : Int} (hx0 : -9223372036854775807 ≤ x) (hx1 : x ≤ 9223372036854775807) (hy0 : 0 < y) (hy1 : y ≤ 9223372036854775807) : Int64.ofInt x / Int64.ofInt y = Int64.ofInt (x.tdiv y) := by
  have hb : -9223372036854775807 ≤ x.tdiv y ∧ x.tdiv y ≤ 9223372036854775807 := by
    rcases Int.le_total 0 x with h0 | h0
    · rw [Int.tdiv_eq_ediv_of_nonneg h0]
      have h1 := Int.ediv_nonneg h0 (Int.le_of_lt hy0)
      have h2 := Int.ediv_le_self y h0
      omega
    · have e : x.tdiv y = -((-x).tdiv y) := by rw [Int.neg_tdiv, Int.neg_neg]
      rw [e, Int.tdiv_eq_ediv_of_nonneg (by omega)]
      have h1 := Int.ediv_nonneg (show 0 ≤ -x by omega) (Int.le_of_lt hy0)
      have h2 := Int.ediv_le_self y (show 0 ≤ -x by omega)
      omega
  rw [← Int64.toInt_inj, Int64.toInt_div, i6_toInt ⟨by omega, by omega⟩, i6_toInt ⟨by omega, by omega⟩, i6_toInt ⟨by omega, by omega⟩]
  exact Int.bmod_eq_of_le (by omega) (by omega)
theorem i6_toI3 (x : Int) : (Int64.ofInt x).toInt32 = Int32.ofInt x := by
  first
    | exact Int64.toInt32_ofInt x
    | (rw [Int64.toInt32_ofInt])
section GX
variable {own : String} {b : ByteArray} {mL : Nat} {rt : Option FieldType} {isI : Bool} {d a n0 : Nat} {Q : Option Value → AH → Prop} {G : Nat → List (Option Value) → List Value → Nat → AH → Prop}
variable {pc q tgt : Nat} {st : List Value} {ls : List (Option Value)} {n : Nat} {h : AH}
theorem gx_iload0 (hG : Cx own b mL rt isI d a n0 Q G) {z : Int} (hd : decode b pc = .ok (.iload_n 0, 1)) (hq : pc + 1 = q) (k : G q (some (Vi z) :: ls) (Vi z :: st) n h) : G pc (some (Vi z) :: ls) st n h := by
  obtain ⟨p, l, e, R, s, m, args, below, meth, c, D, K, bb, off, Z, hx, hb, hml, hown, hK, hI, hR, hof, hfin, rfl⟩ := hG
  subst hq
  intro h1 h2 H locs L hL hW hS
  exact lv_iload_n hx hb hd rfl (hL.get (k := 0) (v := Vi z) rfl) (k h1 h2 H locs L hL hW hS)
theorem gx_lload0 (hG : Cx own b mL rt isI d a n0 Q G) {z : Int} (hd : decode b pc = .ok (.lload_n 0, 1)) (hq : pc + 1 = q) (k : G q (some (Vj z) :: ls) (Vj z :: st) n h) : G pc (some (Vj z) :: ls) st n h := by
  obtain ⟨p, l, e, R, s, m, args, below, meth, c, D, K, bb, off, Z, hx, hb, hml, hown, hK, hI, hR, hof, hfin, rfl⟩ := hG
  subst hq
  intro h1 h2 H locs L hL hW hS
  exact lv_lload_n hx hb hd rfl (hL.get (k := 0) (v := Vj z) rfl) (k h1 h2 H locs L hL hW hS)
theorem gx_aload0 (hG : Cx own b mL rt isI d a n0 Q G) {z : Int} (hd : decode b pc = .ok (.aload_n 0, 1)) (hq : pc + 1 = q) (k : G q (some (Vr z) :: ls) (Vr z :: st) n h) : G pc (some (Vr z) :: ls) st n h := by
  obtain ⟨p, l, e, R, s, m, args, below, meth, c, D, K, bb, off, Z, hx, hb, hml, hown, hK, hI, hR, hof, hfin, rfl⟩ := hG
  subst hq
  intro h1 h2 H locs L hL hW hS
  obtain ⟨x, hxr⟩ := rl_ref bb off z
  have hg := hL.get (k := 0) (v := Vr z) rfl
  rw [hxr] at hg
  have kk := k h1 h2 H locs L hL hW hS
  rw [List.map_cons, hxr] at kk
  exact lv_aload_n hx hb hd rfl hg kk
theorem gx_istore0 (hG : Cx own b mL rt isI d a n0 Q G) {y : Option Value} {z : Int} (hd : decode b pc = .ok (.istore_n 0, 1)) (hq : pc + 1 = q) (k : G q (some (Vi z) :: ls) st n h) : G pc (y :: ls) (Vi z :: st) n h := by
  obtain ⟨p, l, e, R, s, m, args, below, meth, c, D, K, bb, off, Z, hx, hb, hml, hown, hK, hI, hR, hof, hfin, rfl⟩ := hG
  subst hq
  intro h1 h2 H locs L hL hW hS
  refine lv_istore_n hx hb hd rfl hL.1 (by have := hL.2; simp at this; omega) rfl (fun L' hL' => ?_)
  exact k h1 h2 H locs L' (hL.set1 rl_cat (i := 0) (v := Vi z) rfl (by simp) hL') hW hS
theorem gx_astore0 (hG : Cx own b mL rt isI d a n0 Q G) {y : Option Value} {z : Int} (hd : decode b pc = .ok (.astore_n 0, 1)) (hq : pc + 1 = q) (k : G q (some (Vr z) :: ls) st n h) : G pc (y :: ls) (Vr z :: st) n h := by
  obtain ⟨p, l, e, R, s, m, args, below, meth, c, D, K, bb, off, Z, hx, hb, hml, hown, hK, hI, hR, hof, hfin, rfl⟩ := hG
  subst hq
  intro h1 h2 H locs L hL hW hS
  obtain ⟨x, hxr⟩ := rl_ref bb off z
  have e0 : (Vr z :: st).map (rl bb off) = .ref x :: st.map (rl bb off) := by rw [List.map_cons, hxr]
  rw [e0]
  refine lv_astore_n hx hb hd rfl hL.1 (by have := hL.2; simp at this; omega) rfl (fun L' hL' => ?_)
  rw [← hxr] at hL'
  exact k h1 h2 H locs L' (hL.set1 rl_cat (i := 0) (v := Vr z) rfl (by simp) hL') hW hS
theorem gx_lstore0 (hG : Cx own b mL rt isI d a n0 Q G) {y y2 : Option Value} {z : Int} (hd : decode b pc = .ok (.lstore_n 0, 1)) (hq : pc + 1 = q) (k : G q (some (Vj z) :: none :: ls) st n h) : G pc (y :: y2 :: ls) (Vj z :: st) n h := by
  obtain ⟨p, l, e, R, s, m, args, below, meth, c, D, K, bb, off, Z, hx, hb, hml, hown, hK, hI, hR, hof, hfin, rfl⟩ := hG
  subst hq
  intro h1 h2 H locs L hL hW hS
  refine lv_lstore_n hx hb hd rfl hL.1 (by have := hL.2; simp at this; omega) rfl (fun L' hL' => ?_)
  exact k h1 h2 H locs L' (hL.set2 rl_cat (i := 0) (v := Vj z) rfl (by simp) hL') hW hS
theorem gx_iinc0 (hG : Cx own b mL rt isI d a n0 Q G) {z cc : Int} (hd : decode b pc = .ok (.iinc 0 cc, 3)) (hq : pc + 3 = q) (k : G q (some (Vi (z + cc)) :: ls) st n h) : G pc (some (Vi z) :: ls) st n h := by
  obtain ⟨p, l, e, R, s, m, args, below, meth, c, D, K, bb, off, Z, hx, hb, hml, hown, hK, hI, hR, hof, hfin, rfl⟩ := hG
  subst hq
  intro h1 h2 H locs L hL hW hS
  obtain ⟨j, hj⟩ := List.getElem?_of_mem (asc_in (f := rl bb off) _ 0 0 (show (some (Vi z) :: ls : List (Option Value))[0]? = some (some (Vi z)) from rfl))
  rw [Nat.zero_add] at hj
  refine lv_iinc hx hb hd hL.1 hj rfl (by have := hL.2; simp at this; omega) rfl (fun L' hL' => ?_)
  rw [← Int32.ofInt_add] at hL'
  exact k h1 h2 H locs L' (hL.set1 rl_cat (i := 0) (v := Vi (z + cc)) rfl (by simp) hL') hW hS
theorem gx_iload1 (hG : Cx own b mL rt isI d a n0 Q G) {x0 : Option Value} {z : Int} (hd : decode b pc = .ok (.iload_n 1, 1)) (hq : pc + 1 = q) (k : G q (x0 :: some (Vi z) :: ls) (Vi z :: st) n h) : G pc (x0 :: some (Vi z) :: ls) st n h := by
  obtain ⟨p, l, e, R, s, m, args, below, meth, c, D, K, bb, off, Z, hx, hb, hml, hown, hK, hI, hR, hof, hfin, rfl⟩ := hG
  subst hq
  intro h1 h2 H locs L hL hW hS
  exact lv_iload_n hx hb hd rfl (hL.get (k := 1) (v := Vi z) rfl) (k h1 h2 H locs L hL hW hS)
theorem gx_lload1 (hG : Cx own b mL rt isI d a n0 Q G) {x0 : Option Value} {z : Int} (hd : decode b pc = .ok (.lload_n 1, 1)) (hq : pc + 1 = q) (k : G q (x0 :: some (Vj z) :: ls) (Vj z :: st) n h) : G pc (x0 :: some (Vj z) :: ls) st n h := by
  obtain ⟨p, l, e, R, s, m, args, below, meth, c, D, K, bb, off, Z, hx, hb, hml, hown, hK, hI, hR, hof, hfin, rfl⟩ := hG
  subst hq
  intro h1 h2 H locs L hL hW hS
  exact lv_lload_n hx hb hd rfl (hL.get (k := 1) (v := Vj z) rfl) (k h1 h2 H locs L hL hW hS)
theorem gx_aload1 (hG : Cx own b mL rt isI d a n0 Q G) {x0 : Option Value} {z : Int} (hd : decode b pc = .ok (.aload_n 1, 1)) (hq : pc + 1 = q) (k : G q (x0 :: some (Vr z) :: ls) (Vr z :: st) n h) : G pc (x0 :: some (Vr z) :: ls) st n h := by
  obtain ⟨p, l, e, R, s, m, args, below, meth, c, D, K, bb, off, Z, hx, hb, hml, hown, hK, hI, hR, hof, hfin, rfl⟩ := hG
  subst hq
  intro h1 h2 H locs L hL hW hS
  obtain ⟨x, hxr⟩ := rl_ref bb off z
  have hg := hL.get (k := 1) (v := Vr z) rfl
  rw [hxr] at hg
  have kk := k h1 h2 H locs L hL hW hS
  rw [List.map_cons, hxr] at kk
  exact lv_aload_n hx hb hd rfl hg kk
theorem gx_istore1 (hG : Cx own b mL rt isI d a n0 Q G) {x0 : Option Value} {y : Option Value} {z : Int} (hd : decode b pc = .ok (.istore_n 1, 1)) (hq : pc + 1 = q) (hp : one1 [x0] 0 = true) (k : G q (x0 :: some (Vi z) :: ls) st n h) : G pc (x0 :: y :: ls) (Vi z :: st) n h := by
  obtain ⟨p, l, e, R, s, m, args, below, meth, c, D, K, bb, off, Z, hx, hb, hml, hown, hK, hI, hR, hof, hfin, rfl⟩ := hG
  subst hq
  intro h1 h2 H locs L hL hW hS
  refine lv_istore_n hx hb hd rfl hL.1 (by have := hL.2; simp at this; omega) rfl (fun L' hL' => ?_)
  exact k h1 h2 H locs L' (hL.set1 rl_cat (i := 1) (v := Vi z) hp (by simp) hL') hW hS
theorem gx_astore1 (hG : Cx own b mL rt isI d a n0 Q G) {x0 : Option Value} {y : Option Value} {z : Int} (hd : decode b pc = .ok (.astore_n 1, 1)) (hq : pc + 1 = q) (hp : one1 [x0] 0 = true) (k : G q (x0 :: some (Vr z) :: ls) st n h) : G pc (x0 :: y :: ls) (Vr z :: st) n h := by
  obtain ⟨p, l, e, R, s, m, args, below, meth, c, D, K, bb, off, Z, hx, hb, hml, hown, hK, hI, hR, hof, hfin, rfl⟩ := hG
  subst hq
  intro h1 h2 H locs L hL hW hS
  obtain ⟨x, hxr⟩ := rl_ref bb off z
  have e0 : (Vr z :: st).map (rl bb off) = .ref x :: st.map (rl bb off) := by rw [List.map_cons, hxr]
  rw [e0]
  refine lv_astore_n hx hb hd rfl hL.1 (by have := hL.2; simp at this; omega) rfl (fun L' hL' => ?_)
  rw [← hxr] at hL'
  exact k h1 h2 H locs L' (hL.set1 rl_cat (i := 1) (v := Vr z) hp (by simp) hL') hW hS
theorem gx_lstore1 (hG : Cx own b mL rt isI d a n0 Q G) {x0 : Option Value} {y y2 : Option Value} {z : Int} (hd : decode b pc = .ok (.lstore_n 1, 1)) (hq : pc + 1 = q) (hp : one1 [x0] 0 = true) (k : G q (x0 :: some (Vj z) :: none :: ls) st n h) : G pc (x0 :: y :: y2 :: ls) (Vj z :: st) n h := by
  obtain ⟨p, l, e, R, s, m, args, below, meth, c, D, K, bb, off, Z, hx, hb, hml, hown, hK, hI, hR, hof, hfin, rfl⟩ := hG
  subst hq
  intro h1 h2 H locs L hL hW hS
  refine lv_lstore_n hx hb hd rfl hL.1 (by have := hL.2; simp at this; omega) rfl (fun L' hL' => ?_)
  exact k h1 h2 H locs L' (hL.set2 rl_cat (i := 1) (v := Vj z) hp (by simp) hL') hW hS
theorem gx_iinc1 (hG : Cx own b mL rt isI d a n0 Q G) {x0 : Option Value} {z cc : Int} (hd : decode b pc = .ok (.iinc 1 cc, 3)) (hq : pc + 3 = q) (hp : one1 [x0] 0 = true) (k : G q (x0 :: some (Vi (z + cc)) :: ls) st n h) : G pc (x0 :: some (Vi z) :: ls) st n h := by
  obtain ⟨p, l, e, R, s, m, args, below, meth, c, D, K, bb, off, Z, hx, hb, hml, hown, hK, hI, hR, hof, hfin, rfl⟩ := hG
  subst hq
  intro h1 h2 H locs L hL hW hS
  obtain ⟨j, hj⟩ := List.getElem?_of_mem (asc_in (f := rl bb off) _ 0 1 (show (x0 :: some (Vi z) :: ls : List (Option Value))[1]? = some (some (Vi z)) from rfl))
  rw [Nat.zero_add] at hj
  refine lv_iinc hx hb hd hL.1 hj rfl (by have := hL.2; simp at this; omega) rfl (fun L' hL' => ?_)
  rw [← Int32.ofInt_add] at hL'
  exact k h1 h2 H locs L' (hL.set1 rl_cat (i := 1) (v := Vi (z + cc)) hp (by simp) hL') hW hS
theorem gx_iload2 (hG : Cx own b mL rt isI d a n0 Q G) {x0 x1 : Option Value} {z : Int} (hd : decode b pc = .ok (.iload_n 2, 1)) (hq : pc + 1 = q) (k : G q (x0 :: x1 :: some (Vi z) :: ls) (Vi z :: st) n h) : G pc (x0 :: x1 :: some (Vi z) :: ls) st n h := by
  obtain ⟨p, l, e, R, s, m, args, below, meth, c, D, K, bb, off, Z, hx, hb, hml, hown, hK, hI, hR, hof, hfin, rfl⟩ := hG
  subst hq
  intro h1 h2 H locs L hL hW hS
  exact lv_iload_n hx hb hd rfl (hL.get (k := 2) (v := Vi z) rfl) (k h1 h2 H locs L hL hW hS)
theorem gx_lload2 (hG : Cx own b mL rt isI d a n0 Q G) {x0 x1 : Option Value} {z : Int} (hd : decode b pc = .ok (.lload_n 2, 1)) (hq : pc + 1 = q) (k : G q (x0 :: x1 :: some (Vj z) :: ls) (Vj z :: st) n h) : G pc (x0 :: x1 :: some (Vj z) :: ls) st n h := by
  obtain ⟨p, l, e, R, s, m, args, below, meth, c, D, K, bb, off, Z, hx, hb, hml, hown, hK, hI, hR, hof, hfin, rfl⟩ := hG
  subst hq
  intro h1 h2 H locs L hL hW hS
  exact lv_lload_n hx hb hd rfl (hL.get (k := 2) (v := Vj z) rfl) (k h1 h2 H locs L hL hW hS)
theorem gx_aload2 (hG : Cx own b mL rt isI d a n0 Q G) {x0 x1 : Option Value} {z : Int} (hd : decode b pc = .ok (.aload_n 2, 1)) (hq : pc + 1 = q) (k : G q (x0 :: x1 :: some (Vr z) :: ls) (Vr z :: st) n h) : G pc (x0 :: x1 :: some (Vr z) :: ls) st n h := by
  obtain ⟨p, l, e, R, s, m, args, below, meth, c, D, K, bb, off, Z, hx, hb, hml, hown, hK, hI, hR, hof, hfin, rfl⟩ := hG
  subst hq
  intro h1 h2 H locs L hL hW hS
  obtain ⟨x, hxr⟩ := rl_ref bb off z
  have hg := hL.get (k := 2) (v := Vr z) rfl
  rw [hxr] at hg
  have kk := k h1 h2 H locs L hL hW hS
  rw [List.map_cons, hxr] at kk
  exact lv_aload_n hx hb hd rfl hg kk
theorem gx_istore2 (hG : Cx own b mL rt isI d a n0 Q G) {x0 x1 : Option Value} {y : Option Value} {z : Int} (hd : decode b pc = .ok (.istore_n 2, 1)) (hq : pc + 1 = q) (hp : one1 [x1] 0 = true) (k : G q (x0 :: x1 :: some (Vi z) :: ls) st n h) : G pc (x0 :: x1 :: y :: ls) (Vi z :: st) n h := by
  obtain ⟨p, l, e, R, s, m, args, below, meth, c, D, K, bb, off, Z, hx, hb, hml, hown, hK, hI, hR, hof, hfin, rfl⟩ := hG
  subst hq
  intro h1 h2 H locs L hL hW hS
  refine lv_istore_n hx hb hd rfl hL.1 (by have := hL.2; simp at this; omega) rfl (fun L' hL' => ?_)
  exact k h1 h2 H locs L' (hL.set1 rl_cat (i := 2) (v := Vi z) hp (by simp) hL') hW hS
theorem gx_astore2 (hG : Cx own b mL rt isI d a n0 Q G) {x0 x1 : Option Value} {y : Option Value} {z : Int} (hd : decode b pc = .ok (.astore_n 2, 1)) (hq : pc + 1 = q) (hp : one1 [x1] 0 = true) (k : G q (x0 :: x1 :: some (Vr z) :: ls) st n h) : G pc (x0 :: x1 :: y :: ls) (Vr z :: st) n h := by
  obtain ⟨p, l, e, R, s, m, args, below, meth, c, D, K, bb, off, Z, hx, hb, hml, hown, hK, hI, hR, hof, hfin, rfl⟩ := hG
  subst hq
  intro h1 h2 H locs L hL hW hS
  obtain ⟨x, hxr⟩ := rl_ref bb off z
  have e0 : (Vr z :: st).map (rl bb off) = .ref x :: st.map (rl bb off) := by rw [List.map_cons, hxr]
  rw [e0]
  refine lv_astore_n hx hb hd rfl hL.1 (by have := hL.2; simp at this; omega) rfl (fun L' hL' => ?_)
  rw [← hxr] at hL'
  exact k h1 h2 H locs L' (hL.set1 rl_cat (i := 2) (v := Vr z) hp (by simp) hL') hW hS
theorem gx_lstore2 (hG : Cx own b mL rt isI d a n0 Q G) {x0 x1 : Option Value} {y y2 : Option Value} {z : Int} (hd : decode b pc = .ok (.lstore_n 2, 1)) (hq : pc + 1 = q) (hp : one1 [x1] 0 = true) (k : G q (x0 :: x1 :: some (Vj z) :: none :: ls) st n h) : G pc (x0 :: x1 :: y :: y2 :: ls) (Vj z :: st) n h := by
  obtain ⟨p, l, e, R, s, m, args, below, meth, c, D, K, bb, off, Z, hx, hb, hml, hown, hK, hI, hR, hof, hfin, rfl⟩ := hG
  subst hq
  intro h1 h2 H locs L hL hW hS
  refine lv_lstore_n hx hb hd rfl hL.1 (by have := hL.2; simp at this; omega) rfl (fun L' hL' => ?_)
  exact k h1 h2 H locs L' (hL.set2 rl_cat (i := 2) (v := Vj z) hp (by simp) hL') hW hS
theorem gx_iinc2 (hG : Cx own b mL rt isI d a n0 Q G) {x0 x1 : Option Value} {z cc : Int} (hd : decode b pc = .ok (.iinc 2 cc, 3)) (hq : pc + 3 = q) (hp : one1 [x1] 0 = true) (k : G q (x0 :: x1 :: some (Vi (z + cc)) :: ls) st n h) : G pc (x0 :: x1 :: some (Vi z) :: ls) st n h := by
  obtain ⟨p, l, e, R, s, m, args, below, meth, c, D, K, bb, off, Z, hx, hb, hml, hown, hK, hI, hR, hof, hfin, rfl⟩ := hG
  subst hq
  intro h1 h2 H locs L hL hW hS
  obtain ⟨j, hj⟩ := List.getElem?_of_mem (asc_in (f := rl bb off) _ 0 2 (show (x0 :: x1 :: some (Vi z) :: ls : List (Option Value))[2]? = some (some (Vi z)) from rfl))
  rw [Nat.zero_add] at hj
  refine lv_iinc hx hb hd hL.1 hj rfl (by have := hL.2; simp at this; omega) rfl (fun L' hL' => ?_)
  rw [← Int32.ofInt_add] at hL'
  exact k h1 h2 H locs L' (hL.set1 rl_cat (i := 2) (v := Vi (z + cc)) hp (by simp) hL') hW hS
theorem gx_iload3 (hG : Cx own b mL rt isI d a n0 Q G) {x0 x1 x2 : Option Value} {z : Int} (hd : decode b pc = .ok (.iload_n 3, 1)) (hq : pc + 1 = q) (k : G q (x0 :: x1 :: x2 :: some (Vi z) :: ls) (Vi z :: st) n h) : G pc (x0 :: x1 :: x2 :: some (Vi z) :: ls) st n h := by
  obtain ⟨p, l, e, R, s, m, args, below, meth, c, D, K, bb, off, Z, hx, hb, hml, hown, hK, hI, hR, hof, hfin, rfl⟩ := hG
  subst hq
  intro h1 h2 H locs L hL hW hS
  exact lv_iload_n hx hb hd rfl (hL.get (k := 3) (v := Vi z) rfl) (k h1 h2 H locs L hL hW hS)
theorem gx_lload3 (hG : Cx own b mL rt isI d a n0 Q G) {x0 x1 x2 : Option Value} {z : Int} (hd : decode b pc = .ok (.lload_n 3, 1)) (hq : pc + 1 = q) (k : G q (x0 :: x1 :: x2 :: some (Vj z) :: ls) (Vj z :: st) n h) : G pc (x0 :: x1 :: x2 :: some (Vj z) :: ls) st n h := by
  obtain ⟨p, l, e, R, s, m, args, below, meth, c, D, K, bb, off, Z, hx, hb, hml, hown, hK, hI, hR, hof, hfin, rfl⟩ := hG
  subst hq
  intro h1 h2 H locs L hL hW hS
  exact lv_lload_n hx hb hd rfl (hL.get (k := 3) (v := Vj z) rfl) (k h1 h2 H locs L hL hW hS)
theorem gx_aload3 (hG : Cx own b mL rt isI d a n0 Q G) {x0 x1 x2 : Option Value} {z : Int} (hd : decode b pc = .ok (.aload_n 3, 1)) (hq : pc + 1 = q) (k : G q (x0 :: x1 :: x2 :: some (Vr z) :: ls) (Vr z :: st) n h) : G pc (x0 :: x1 :: x2 :: some (Vr z) :: ls) st n h := by
  obtain ⟨p, l, e, R, s, m, args, below, meth, c, D, K, bb, off, Z, hx, hb, hml, hown, hK, hI, hR, hof, hfin, rfl⟩ := hG
  subst hq
  intro h1 h2 H locs L hL hW hS
  obtain ⟨x, hxr⟩ := rl_ref bb off z
  have hg := hL.get (k := 3) (v := Vr z) rfl
  rw [hxr] at hg
  have kk := k h1 h2 H locs L hL hW hS
  rw [List.map_cons, hxr] at kk
  exact lv_aload_n hx hb hd rfl hg kk
theorem gx_istore3 (hG : Cx own b mL rt isI d a n0 Q G) {x0 x1 x2 : Option Value} {y : Option Value} {z : Int} (hd : decode b pc = .ok (.istore_n 3, 1)) (hq : pc + 1 = q) (hp : one1 [x2] 0 = true) (k : G q (x0 :: x1 :: x2 :: some (Vi z) :: ls) st n h) : G pc (x0 :: x1 :: x2 :: y :: ls) (Vi z :: st) n h := by
  obtain ⟨p, l, e, R, s, m, args, below, meth, c, D, K, bb, off, Z, hx, hb, hml, hown, hK, hI, hR, hof, hfin, rfl⟩ := hG
  subst hq
  intro h1 h2 H locs L hL hW hS
  refine lv_istore_n hx hb hd rfl hL.1 (by have := hL.2; simp at this; omega) rfl (fun L' hL' => ?_)
  exact k h1 h2 H locs L' (hL.set1 rl_cat (i := 3) (v := Vi z) hp (by simp) hL') hW hS
theorem gx_astore3 (hG : Cx own b mL rt isI d a n0 Q G) {x0 x1 x2 : Option Value} {y : Option Value} {z : Int} (hd : decode b pc = .ok (.astore_n 3, 1)) (hq : pc + 1 = q) (hp : one1 [x2] 0 = true) (k : G q (x0 :: x1 :: x2 :: some (Vr z) :: ls) st n h) : G pc (x0 :: x1 :: x2 :: y :: ls) (Vr z :: st) n h := by
  obtain ⟨p, l, e, R, s, m, args, below, meth, c, D, K, bb, off, Z, hx, hb, hml, hown, hK, hI, hR, hof, hfin, rfl⟩ := hG
  subst hq
  intro h1 h2 H locs L hL hW hS
  obtain ⟨x, hxr⟩ := rl_ref bb off z
  have e0 : (Vr z :: st).map (rl bb off) = .ref x :: st.map (rl bb off) := by rw [List.map_cons, hxr]
  rw [e0]
  refine lv_astore_n hx hb hd rfl hL.1 (by have := hL.2; simp at this; omega) rfl (fun L' hL' => ?_)
  rw [← hxr] at hL'
  exact k h1 h2 H locs L' (hL.set1 rl_cat (i := 3) (v := Vr z) hp (by simp) hL') hW hS
theorem gx_lstore3 (hG : Cx own b mL rt isI d a n0 Q G) {x0 x1 x2 : Option Value} {y y2 : Option Value} {z : Int} (hd : decode b pc = .ok (.lstore_n 3, 1)) (hq : pc + 1 = q) (hp : one1 [x2] 0 = true) (k : G q (x0 :: x1 :: x2 :: some (Vj z) :: none :: ls) st n h) : G pc (x0 :: x1 :: x2 :: y :: y2 :: ls) (Vj z :: st) n h := by
  obtain ⟨p, l, e, R, s, m, args, below, meth, c, D, K, bb, off, Z, hx, hb, hml, hown, hK, hI, hR, hof, hfin, rfl⟩ := hG
  subst hq
  intro h1 h2 H locs L hL hW hS
  refine lv_lstore_n hx hb hd rfl hL.1 (by have := hL.2; simp at this; omega) rfl (fun L' hL' => ?_)
  exact k h1 h2 H locs L' (hL.set2 rl_cat (i := 3) (v := Vj z) hp (by simp) hL') hW hS
theorem gx_iinc3 (hG : Cx own b mL rt isI d a n0 Q G) {x0 x1 x2 : Option Value} {z cc : Int} (hd : decode b pc = .ok (.iinc 3 cc, 3)) (hq : pc + 3 = q) (hp : one1 [x2] 0 = true) (k : G q (x0 :: x1 :: x2 :: some (Vi (z + cc)) :: ls) st n h) : G pc (x0 :: x1 :: x2 :: some (Vi z) :: ls) st n h := by
  obtain ⟨p, l, e, R, s, m, args, below, meth, c, D, K, bb, off, Z, hx, hb, hml, hown, hK, hI, hR, hof, hfin, rfl⟩ := hG
  subst hq
  intro h1 h2 H locs L hL hW hS
  obtain ⟨j, hj⟩ := List.getElem?_of_mem (asc_in (f := rl bb off) _ 0 3 (show (x0 :: x1 :: x2 :: some (Vi z) :: ls : List (Option Value))[3]? = some (some (Vi z)) from rfl))
  rw [Nat.zero_add] at hj
  refine lv_iinc hx hb hd hL.1 hj rfl (by have := hL.2; simp at this; omega) rfl (fun L' hL' => ?_)
  rw [← Int32.ofInt_add] at hL'
  exact k h1 h2 H locs L' (hL.set1 rl_cat (i := 3) (v := Vi (z + cc)) hp (by simp) hL') hW hS
theorem gx_iload4 (hG : Cx own b mL rt isI d a n0 Q G) {x0 x1 x2 x3 : Option Value} {z : Int} (hd : decode b pc = .ok (.iload 4, 2)) (hq : pc + 2 = q) (k : G q (x0 :: x1 :: x2 :: x3 :: some (Vi z) :: ls) (Vi z :: st) n h) : G pc (x0 :: x1 :: x2 :: x3 :: some (Vi z) :: ls) st n h := by
  obtain ⟨p, l, e, R, s, m, args, below, meth, c, D, K, bb, off, Z, hx, hb, hml, hown, hK, hI, hR, hof, hfin, rfl⟩ := hG
  subst hq
  intro h1 h2 H locs L hL hW hS
  exact lv_iload hx hb hd (hL.get (k := 4) (v := Vi z) rfl) (k h1 h2 H locs L hL hW hS)
theorem gx_lload4 (hG : Cx own b mL rt isI d a n0 Q G) {x0 x1 x2 x3 : Option Value} {z : Int} (hd : decode b pc = .ok (.lload 4, 2)) (hq : pc + 2 = q) (k : G q (x0 :: x1 :: x2 :: x3 :: some (Vj z) :: ls) (Vj z :: st) n h) : G pc (x0 :: x1 :: x2 :: x3 :: some (Vj z) :: ls) st n h := by
  obtain ⟨p, l, e, R, s, m, args, below, meth, c, D, K, bb, off, Z, hx, hb, hml, hown, hK, hI, hR, hof, hfin, rfl⟩ := hG
  subst hq
  intro h1 h2 H locs L hL hW hS
  exact lv_lload hx hb hd (hL.get (k := 4) (v := Vj z) rfl) (k h1 h2 H locs L hL hW hS)
theorem gx_aload4 (hG : Cx own b mL rt isI d a n0 Q G) {x0 x1 x2 x3 : Option Value} {z : Int} (hd : decode b pc = .ok (.aload 4, 2)) (hq : pc + 2 = q) (k : G q (x0 :: x1 :: x2 :: x3 :: some (Vr z) :: ls) (Vr z :: st) n h) : G pc (x0 :: x1 :: x2 :: x3 :: some (Vr z) :: ls) st n h := by
  obtain ⟨p, l, e, R, s, m, args, below, meth, c, D, K, bb, off, Z, hx, hb, hml, hown, hK, hI, hR, hof, hfin, rfl⟩ := hG
  subst hq
  intro h1 h2 H locs L hL hW hS
  obtain ⟨x, hxr⟩ := rl_ref bb off z
  have hg := hL.get (k := 4) (v := Vr z) rfl
  rw [hxr] at hg
  have kk := k h1 h2 H locs L hL hW hS
  rw [List.map_cons, hxr] at kk
  exact lv_aload hx hb hd hg kk
theorem gx_istore4 (hG : Cx own b mL rt isI d a n0 Q G) {x0 x1 x2 x3 : Option Value} {y : Option Value} {z : Int} (hd : decode b pc = .ok (.istore 4, 2)) (hq : pc + 2 = q) (hp : one1 [x3] 0 = true) (k : G q (x0 :: x1 :: x2 :: x3 :: some (Vi z) :: ls) st n h) : G pc (x0 :: x1 :: x2 :: x3 :: y :: ls) (Vi z :: st) n h := by
  obtain ⟨p, l, e, R, s, m, args, below, meth, c, D, K, bb, off, Z, hx, hb, hml, hown, hK, hI, hR, hof, hfin, rfl⟩ := hG
  subst hq
  intro h1 h2 H locs L hL hW hS
  refine lv_istore hx hb hd hL.1 (by have := hL.2; simp at this; omega) rfl (fun L' hL' => ?_)
  exact k h1 h2 H locs L' (hL.set1 rl_cat (i := 4) (v := Vi z) hp (by simp) hL') hW hS
theorem gx_astore4 (hG : Cx own b mL rt isI d a n0 Q G) {x0 x1 x2 x3 : Option Value} {y : Option Value} {z : Int} (hd : decode b pc = .ok (.astore 4, 2)) (hq : pc + 2 = q) (hp : one1 [x3] 0 = true) (k : G q (x0 :: x1 :: x2 :: x3 :: some (Vr z) :: ls) st n h) : G pc (x0 :: x1 :: x2 :: x3 :: y :: ls) (Vr z :: st) n h := by
  obtain ⟨p, l, e, R, s, m, args, below, meth, c, D, K, bb, off, Z, hx, hb, hml, hown, hK, hI, hR, hof, hfin, rfl⟩ := hG
  subst hq
  intro h1 h2 H locs L hL hW hS
  obtain ⟨x, hxr⟩ := rl_ref bb off z
  have e0 : (Vr z :: st).map (rl bb off) = .ref x :: st.map (rl bb off) := by rw [List.map_cons, hxr]
  rw [e0]
  refine lv_astore hx hb hd hL.1 (by have := hL.2; simp at this; omega) rfl (fun L' hL' => ?_)
  rw [← hxr] at hL'
  exact k h1 h2 H locs L' (hL.set1 rl_cat (i := 4) (v := Vr z) hp (by simp) hL') hW hS
theorem gx_lstore4 (hG : Cx own b mL rt isI d a n0 Q G) {x0 x1 x2 x3 : Option Value} {y y2 : Option Value} {z : Int} (hd : decode b pc = .ok (.lstore 4, 2)) (hq : pc + 2 = q) (hp : one1 [x3] 0 = true) (k : G q (x0 :: x1 :: x2 :: x3 :: some (Vj z) :: none :: ls) st n h) : G pc (x0 :: x1 :: x2 :: x3 :: y :: y2 :: ls) (Vj z :: st) n h := by
  obtain ⟨p, l, e, R, s, m, args, below, meth, c, D, K, bb, off, Z, hx, hb, hml, hown, hK, hI, hR, hof, hfin, rfl⟩ := hG
  subst hq
  intro h1 h2 H locs L hL hW hS
  refine lv_lstore hx hb hd hL.1 (by have := hL.2; simp at this; omega) rfl (fun L' hL' => ?_)
  exact k h1 h2 H locs L' (hL.set2 rl_cat (i := 4) (v := Vj z) hp (by simp) hL') hW hS
theorem gx_iinc4 (hG : Cx own b mL rt isI d a n0 Q G) {x0 x1 x2 x3 : Option Value} {z cc : Int} (hd : decode b pc = .ok (.iinc 4 cc, 3)) (hq : pc + 3 = q) (hp : one1 [x3] 0 = true) (k : G q (x0 :: x1 :: x2 :: x3 :: some (Vi (z + cc)) :: ls) st n h) : G pc (x0 :: x1 :: x2 :: x3 :: some (Vi z) :: ls) st n h := by
  obtain ⟨p, l, e, R, s, m, args, below, meth, c, D, K, bb, off, Z, hx, hb, hml, hown, hK, hI, hR, hof, hfin, rfl⟩ := hG
  subst hq
  intro h1 h2 H locs L hL hW hS
  obtain ⟨j, hj⟩ := List.getElem?_of_mem (asc_in (f := rl bb off) _ 0 4 (show (x0 :: x1 :: x2 :: x3 :: some (Vi z) :: ls : List (Option Value))[4]? = some (some (Vi z)) from rfl))
  rw [Nat.zero_add] at hj
  refine lv_iinc hx hb hd hL.1 hj rfl (by have := hL.2; simp at this; omega) rfl (fun L' hL' => ?_)
  rw [← Int32.ofInt_add] at hL'
  exact k h1 h2 H locs L' (hL.set1 rl_cat (i := 4) (v := Vi (z + cc)) hp (by simp) hL') hW hS
theorem gx_iload5 (hG : Cx own b mL rt isI d a n0 Q G) {x0 x1 x2 x3 x4 : Option Value} {z : Int} (hd : decode b pc = .ok (.iload 5, 2)) (hq : pc + 2 = q) (k : G q (x0 :: x1 :: x2 :: x3 :: x4 :: some (Vi z) :: ls) (Vi z :: st) n h) : G pc (x0 :: x1 :: x2 :: x3 :: x4 :: some (Vi z) :: ls) st n h := by
  obtain ⟨p, l, e, R, s, m, args, below, meth, c, D, K, bb, off, Z, hx, hb, hml, hown, hK, hI, hR, hof, hfin, rfl⟩ := hG
  subst hq
  intro h1 h2 H locs L hL hW hS
  exact lv_iload hx hb hd (hL.get (k := 5) (v := Vi z) rfl) (k h1 h2 H locs L hL hW hS)
theorem gx_lload5 (hG : Cx own b mL rt isI d a n0 Q G) {x0 x1 x2 x3 x4 : Option Value} {z : Int} (hd : decode b pc = .ok (.lload 5, 2)) (hq : pc + 2 = q) (k : G q (x0 :: x1 :: x2 :: x3 :: x4 :: some (Vj z) :: ls) (Vj z :: st) n h) : G pc (x0 :: x1 :: x2 :: x3 :: x4 :: some (Vj z) :: ls) st n h := by
  obtain ⟨p, l, e, R, s, m, args, below, meth, c, D, K, bb, off, Z, hx, hb, hml, hown, hK, hI, hR, hof, hfin, rfl⟩ := hG
  subst hq
  intro h1 h2 H locs L hL hW hS
  exact lv_lload hx hb hd (hL.get (k := 5) (v := Vj z) rfl) (k h1 h2 H locs L hL hW hS)
theorem gx_aload5 (hG : Cx own b mL rt isI d a n0 Q G) {x0 x1 x2 x3 x4 : Option Value} {z : Int} (hd : decode b pc = .ok (.aload 5, 2)) (hq : pc + 2 = q) (k : G q (x0 :: x1 :: x2 :: x3 :: x4 :: some (Vr z) :: ls) (Vr z :: st) n h) : G pc (x0 :: x1 :: x2 :: x3 :: x4 :: some (Vr z) :: ls) st n h := by
  obtain ⟨p, l, e, R, s, m, args, below, meth, c, D, K, bb, off, Z, hx, hb, hml, hown, hK, hI, hR, hof, hfin, rfl⟩ := hG
  subst hq
  intro h1 h2 H locs L hL hW hS
  obtain ⟨x, hxr⟩ := rl_ref bb off z
  have hg := hL.get (k := 5) (v := Vr z) rfl
  rw [hxr] at hg
  have kk := k h1 h2 H locs L hL hW hS
  rw [List.map_cons, hxr] at kk
  exact lv_aload hx hb hd hg kk
theorem gx_istore5 (hG : Cx own b mL rt isI d a n0 Q G) {x0 x1 x2 x3 x4 : Option Value} {y : Option Value} {z : Int} (hd : decode b pc = .ok (.istore 5, 2)) (hq : pc + 2 = q) (hp : one1 [x4] 0 = true) (k : G q (x0 :: x1 :: x2 :: x3 :: x4 :: some (Vi z) :: ls) st n h) : G pc (x0 :: x1 :: x2 :: x3 :: x4 :: y :: ls) (Vi z :: st) n h := by
  obtain ⟨p, l, e, R, s, m, args, below, meth, c, D, K, bb, off, Z, hx, hb, hml, hown, hK, hI, hR, hof, hfin, rfl⟩ := hG
  subst hq
  intro h1 h2 H locs L hL hW hS
  refine lv_istore hx hb hd hL.1 (by have := hL.2; simp at this; omega) rfl (fun L' hL' => ?_)
  exact k h1 h2 H locs L' (hL.set1 rl_cat (i := 5) (v := Vi z) hp (by simp) hL') hW hS
theorem gx_astore5 (hG : Cx own b mL rt isI d a n0 Q G) {x0 x1 x2 x3 x4 : Option Value} {y : Option Value} {z : Int} (hd : decode b pc = .ok (.astore 5, 2)) (hq : pc + 2 = q) (hp : one1 [x4] 0 = true) (k : G q (x0 :: x1 :: x2 :: x3 :: x4 :: some (Vr z) :: ls) st n h) : G pc (x0 :: x1 :: x2 :: x3 :: x4 :: y :: ls) (Vr z :: st) n h := by
  obtain ⟨p, l, e, R, s, m, args, below, meth, c, D, K, bb, off, Z, hx, hb, hml, hown, hK, hI, hR, hof, hfin, rfl⟩ := hG
  subst hq
  intro h1 h2 H locs L hL hW hS
  obtain ⟨x, hxr⟩ := rl_ref bb off z
  have e0 : (Vr z :: st).map (rl bb off) = .ref x :: st.map (rl bb off) := by rw [List.map_cons, hxr]
  rw [e0]
  refine lv_astore hx hb hd hL.1 (by have := hL.2; simp at this; omega) rfl (fun L' hL' => ?_)
  rw [← hxr] at hL'
  exact k h1 h2 H locs L' (hL.set1 rl_cat (i := 5) (v := Vr z) hp (by simp) hL') hW hS
theorem gx_lstore5 (hG : Cx own b mL rt isI d a n0 Q G) {x0 x1 x2 x3 x4 : Option Value} {y y2 : Option Value} {z : Int} (hd : decode b pc = .ok (.lstore 5, 2)) (hq : pc + 2 = q) (hp : one1 [x4] 0 = true) (k : G q (x0 :: x1 :: x2 :: x3 :: x4 :: some (Vj z) :: none :: ls) st n h) : G pc (x0 :: x1 :: x2 :: x3 :: x4 :: y :: y2 :: ls) (Vj z :: st) n h := by
  obtain ⟨p, l, e, R, s, m, args, below, meth, c, D, K, bb, off, Z, hx, hb, hml, hown, hK, hI, hR, hof, hfin, rfl⟩ := hG
  subst hq
  intro h1 h2 H locs L hL hW hS
  refine lv_lstore hx hb hd hL.1 (by have := hL.2; simp at this; omega) rfl (fun L' hL' => ?_)
  exact k h1 h2 H locs L' (hL.set2 rl_cat (i := 5) (v := Vj z) hp (by simp) hL') hW hS
theorem gx_iinc5 (hG : Cx own b mL rt isI d a n0 Q G) {x0 x1 x2 x3 x4 : Option Value} {z cc : Int} (hd : decode b pc = .ok (.iinc 5 cc, 3)) (hq : pc + 3 = q) (hp : one1 [x4] 0 = true) (k : G q (x0 :: x1 :: x2 :: x3 :: x4 :: some (Vi (z + cc)) :: ls) st n h) : G pc (x0 :: x1 :: x2 :: x3 :: x4 :: some (Vi z) :: ls) st n h := by
  obtain ⟨p, l, e, R, s, m, args, below, meth, c, D, K, bb, off, Z, hx, hb, hml, hown, hK, hI, hR, hof, hfin, rfl⟩ := hG
  subst hq
  intro h1 h2 H locs L hL hW hS
  obtain ⟨j, hj⟩ := List.getElem?_of_mem (asc_in (f := rl bb off) _ 0 5 (show (x0 :: x1 :: x2 :: x3 :: x4 :: some (Vi z) :: ls : List (Option Value))[5]? = some (some (Vi z)) from rfl))
  rw [Nat.zero_add] at hj
  refine lv_iinc hx hb hd hL.1 hj rfl (by have := hL.2; simp at this; omega) rfl (fun L' hL' => ?_)
  rw [← Int32.ofInt_add] at hL'
  exact k h1 h2 H locs L' (hL.set1 rl_cat (i := 5) (v := Vi (z + cc)) hp (by simp) hL') hW hS
theorem gx_iload6 (hG : Cx own b mL rt isI d a n0 Q G) {x0 x1 x2 x3 x4 x5 : Option Value} {z : Int} (hd : decode b pc = .ok (.iload 6, 2)) (hq : pc + 2 = q) (k : G q (x0 :: x1 :: x2 :: x3 :: x4 :: x5 :: some (Vi z) :: ls) (Vi z :: st) n h) : G pc (x0 :: x1 :: x2 :: x3 :: x4 :: x5 :: some (Vi z) :: ls) st n h := by
  obtain ⟨p, l, e, R, s, m, args, below, meth, c, D, K, bb, off, Z, hx, hb, hml, hown, hK, hI, hR, hof, hfin, rfl⟩ := hG
  subst hq
  intro h1 h2 H locs L hL hW hS
  exact lv_iload hx hb hd (hL.get (k := 6) (v := Vi z) rfl) (k h1 h2 H locs L hL hW hS)
theorem gx_lload6 (hG : Cx own b mL rt isI d a n0 Q G) {x0 x1 x2 x3 x4 x5 : Option Value} {z : Int} (hd : decode b pc = .ok (.lload 6, 2)) (hq : pc + 2 = q) (k : G q (x0 :: x1 :: x2 :: x3 :: x4 :: x5 :: some (Vj z) :: ls) (Vj z :: st) n h) : G pc (x0 :: x1 :: x2 :: x3 :: x4 :: x5 :: some (Vj z) :: ls) st n h := by
  obtain ⟨p, l, e, R, s, m, args, below, meth, c, D, K, bb, off, Z, hx, hb, hml, hown, hK, hI, hR, hof, hfin, rfl⟩ := hG
  subst hq
  intro h1 h2 H locs L hL hW hS
  exact lv_lload hx hb hd (hL.get (k := 6) (v := Vj z) rfl) (k h1 h2 H locs L hL hW hS)
theorem gx_aload6 (hG : Cx own b mL rt isI d a n0 Q G) {x0 x1 x2 x3 x4 x5 : Option Value} {z : Int} (hd : decode b pc = .ok (.aload 6, 2)) (hq : pc + 2 = q) (k : G q (x0 :: x1 :: x2 :: x3 :: x4 :: x5 :: some (Vr z) :: ls) (Vr z :: st) n h) : G pc (x0 :: x1 :: x2 :: x3 :: x4 :: x5 :: some (Vr z) :: ls) st n h := by
  obtain ⟨p, l, e, R, s, m, args, below, meth, c, D, K, bb, off, Z, hx, hb, hml, hown, hK, hI, hR, hof, hfin, rfl⟩ := hG
  subst hq
  intro h1 h2 H locs L hL hW hS
  obtain ⟨x, hxr⟩ := rl_ref bb off z
  have hg := hL.get (k := 6) (v := Vr z) rfl
  rw [hxr] at hg
  have kk := k h1 h2 H locs L hL hW hS
  rw [List.map_cons, hxr] at kk
  exact lv_aload hx hb hd hg kk
theorem gx_istore6 (hG : Cx own b mL rt isI d a n0 Q G) {x0 x1 x2 x3 x4 x5 : Option Value} {y : Option Value} {z : Int} (hd : decode b pc = .ok (.istore 6, 2)) (hq : pc + 2 = q) (hp : one1 [x5] 0 = true) (k : G q (x0 :: x1 :: x2 :: x3 :: x4 :: x5 :: some (Vi z) :: ls) st n h) : G pc (x0 :: x1 :: x2 :: x3 :: x4 :: x5 :: y :: ls) (Vi z :: st) n h := by
  obtain ⟨p, l, e, R, s, m, args, below, meth, c, D, K, bb, off, Z, hx, hb, hml, hown, hK, hI, hR, hof, hfin, rfl⟩ := hG
  subst hq
  intro h1 h2 H locs L hL hW hS
  refine lv_istore hx hb hd hL.1 (by have := hL.2; simp at this; omega) rfl (fun L' hL' => ?_)
  exact k h1 h2 H locs L' (hL.set1 rl_cat (i := 6) (v := Vi z) hp (by simp) hL') hW hS
theorem gx_astore6 (hG : Cx own b mL rt isI d a n0 Q G) {x0 x1 x2 x3 x4 x5 : Option Value} {y : Option Value} {z : Int} (hd : decode b pc = .ok (.astore 6, 2)) (hq : pc + 2 = q) (hp : one1 [x5] 0 = true) (k : G q (x0 :: x1 :: x2 :: x3 :: x4 :: x5 :: some (Vr z) :: ls) st n h) : G pc (x0 :: x1 :: x2 :: x3 :: x4 :: x5 :: y :: ls) (Vr z :: st) n h := by
  obtain ⟨p, l, e, R, s, m, args, below, meth, c, D, K, bb, off, Z, hx, hb, hml, hown, hK, hI, hR, hof, hfin, rfl⟩ := hG
  subst hq
  intro h1 h2 H locs L hL hW hS
  obtain ⟨x, hxr⟩ := rl_ref bb off z
  have e0 : (Vr z :: st).map (rl bb off) = .ref x :: st.map (rl bb off) := by rw [List.map_cons, hxr]
  rw [e0]
  refine lv_astore hx hb hd hL.1 (by have := hL.2; simp at this; omega) rfl (fun L' hL' => ?_)
  rw [← hxr] at hL'
  exact k h1 h2 H locs L' (hL.set1 rl_cat (i := 6) (v := Vr z) hp (by simp) hL') hW hS
theorem gx_lstore6 (hG : Cx own b mL rt isI d a n0 Q G) {x0 x1 x2 x3 x4 x5 : Option Value} {y y2 : Option Value} {z : Int} (hd : decode b pc = .ok (.lstore 6, 2)) (hq : pc + 2 = q) (hp : one1 [x5] 0 = true) (k : G q (x0 :: x1 :: x2 :: x3 :: x4 :: x5 :: some (Vj z) :: none :: ls) st n h) : G pc (x0 :: x1 :: x2 :: x3 :: x4 :: x5 :: y :: y2 :: ls) (Vj z :: st) n h := by
  obtain ⟨p, l, e, R, s, m, args, below, meth, c, D, K, bb, off, Z, hx, hb, hml, hown, hK, hI, hR, hof, hfin, rfl⟩ := hG
  subst hq
  intro h1 h2 H locs L hL hW hS
  refine lv_lstore hx hb hd hL.1 (by have := hL.2; simp at this; omega) rfl (fun L' hL' => ?_)
  exact k h1 h2 H locs L' (hL.set2 rl_cat (i := 6) (v := Vj z) hp (by simp) hL') hW hS
theorem gx_iinc6 (hG : Cx own b mL rt isI d a n0 Q G) {x0 x1 x2 x3 x4 x5 : Option Value} {z cc : Int} (hd : decode b pc = .ok (.iinc 6 cc, 3)) (hq : pc + 3 = q) (hp : one1 [x5] 0 = true) (k : G q (x0 :: x1 :: x2 :: x3 :: x4 :: x5 :: some (Vi (z + cc)) :: ls) st n h) : G pc (x0 :: x1 :: x2 :: x3 :: x4 :: x5 :: some (Vi z) :: ls) st n h := by
  obtain ⟨p, l, e, R, s, m, args, below, meth, c, D, K, bb, off, Z, hx, hb, hml, hown, hK, hI, hR, hof, hfin, rfl⟩ := hG
  subst hq
  intro h1 h2 H locs L hL hW hS
  obtain ⟨j, hj⟩ := List.getElem?_of_mem (asc_in (f := rl bb off) _ 0 6 (show (x0 :: x1 :: x2 :: x3 :: x4 :: x5 :: some (Vi z) :: ls : List (Option Value))[6]? = some (some (Vi z)) from rfl))
  rw [Nat.zero_add] at hj
  refine lv_iinc hx hb hd hL.1 hj rfl (by have := hL.2; simp at this; omega) rfl (fun L' hL' => ?_)
  rw [← Int32.ofInt_add] at hL'
  exact k h1 h2 H locs L' (hL.set1 rl_cat (i := 6) (v := Vi (z + cc)) hp (by simp) hL') hW hS
theorem gx_iload7 (hG : Cx own b mL rt isI d a n0 Q G) {x0 x1 x2 x3 x4 x5 x6 : Option Value} {z : Int} (hd : decode b pc = .ok (.iload 7, 2)) (hq : pc + 2 = q) (k : G q (x0 :: x1 :: x2 :: x3 :: x4 :: x5 :: x6 :: some (Vi z) :: ls) (Vi z :: st) n h) : G pc (x0 :: x1 :: x2 :: x3 :: x4 :: x5 :: x6 :: some (Vi z) :: ls) st n h := by
  obtain ⟨p, l, e, R, s, m, args, below, meth, c, D, K, bb, off, Z, hx, hb, hml, hown, hK, hI, hR, hof, hfin, rfl⟩ := hG
  subst hq
  intro h1 h2 H locs L hL hW hS
  exact lv_iload hx hb hd (hL.get (k := 7) (v := Vi z) rfl) (k h1 h2 H locs L hL hW hS)
theorem gx_lload7 (hG : Cx own b mL rt isI d a n0 Q G) {x0 x1 x2 x3 x4 x5 x6 : Option Value} {z : Int} (hd : decode b pc = .ok (.lload 7, 2)) (hq : pc + 2 = q) (k : G q (x0 :: x1 :: x2 :: x3 :: x4 :: x5 :: x6 :: some (Vj z) :: ls) (Vj z :: st) n h) : G pc (x0 :: x1 :: x2 :: x3 :: x4 :: x5 :: x6 :: some (Vj z) :: ls) st n h := by
  obtain ⟨p, l, e, R, s, m, args, below, meth, c, D, K, bb, off, Z, hx, hb, hml, hown, hK, hI, hR, hof, hfin, rfl⟩ := hG
  subst hq
  intro h1 h2 H locs L hL hW hS
  exact lv_lload hx hb hd (hL.get (k := 7) (v := Vj z) rfl) (k h1 h2 H locs L hL hW hS)
theorem gx_aload7 (hG : Cx own b mL rt isI d a n0 Q G) {x0 x1 x2 x3 x4 x5 x6 : Option Value} {z : Int} (hd : decode b pc = .ok (.aload 7, 2)) (hq : pc + 2 = q) (k : G q (x0 :: x1 :: x2 :: x3 :: x4 :: x5 :: x6 :: some (Vr z) :: ls) (Vr z :: st) n h) : G pc (x0 :: x1 :: x2 :: x3 :: x4 :: x5 :: x6 :: some (Vr z) :: ls) st n h := by
  obtain ⟨p, l, e, R, s, m, args, below, meth, c, D, K, bb, off, Z, hx, hb, hml, hown, hK, hI, hR, hof, hfin, rfl⟩ := hG
  subst hq
  intro h1 h2 H locs L hL hW hS
  obtain ⟨x, hxr⟩ := rl_ref bb off z
  have hg := hL.get (k := 7) (v := Vr z) rfl
  rw [hxr] at hg
  have kk := k h1 h2 H locs L hL hW hS
  rw [List.map_cons, hxr] at kk
  exact lv_aload hx hb hd hg kk
theorem gx_istore7 (hG : Cx own b mL rt isI d a n0 Q G) {x0 x1 x2 x3 x4 x5 x6 : Option Value} {y : Option Value} {z : Int} (hd : decode b pc = .ok (.istore 7, 2)) (hq : pc + 2 = q) (hp : one1 [x6] 0 = true) (k : G q (x0 :: x1 :: x2 :: x3 :: x4 :: x5 :: x6 :: some (Vi z) :: ls) st n h) : G pc (x0 :: x1 :: x2 :: x3 :: x4 :: x5 :: x6 :: y :: ls) (Vi z :: st) n h := by
  obtain ⟨p, l, e, R, s, m, args, below, meth, c, D, K, bb, off, Z, hx, hb, hml, hown, hK, hI, hR, hof, hfin, rfl⟩ := hG
  subst hq
  intro h1 h2 H locs L hL hW hS
  refine lv_istore hx hb hd hL.1 (by have := hL.2; simp at this; omega) rfl (fun L' hL' => ?_)
  exact k h1 h2 H locs L' (hL.set1 rl_cat (i := 7) (v := Vi z) hp (by simp) hL') hW hS
theorem gx_astore7 (hG : Cx own b mL rt isI d a n0 Q G) {x0 x1 x2 x3 x4 x5 x6 : Option Value} {y : Option Value} {z : Int} (hd : decode b pc = .ok (.astore 7, 2)) (hq : pc + 2 = q) (hp : one1 [x6] 0 = true) (k : G q (x0 :: x1 :: x2 :: x3 :: x4 :: x5 :: x6 :: some (Vr z) :: ls) st n h) : G pc (x0 :: x1 :: x2 :: x3 :: x4 :: x5 :: x6 :: y :: ls) (Vr z :: st) n h := by
  obtain ⟨p, l, e, R, s, m, args, below, meth, c, D, K, bb, off, Z, hx, hb, hml, hown, hK, hI, hR, hof, hfin, rfl⟩ := hG
  subst hq
  intro h1 h2 H locs L hL hW hS
  obtain ⟨x, hxr⟩ := rl_ref bb off z
  have e0 : (Vr z :: st).map (rl bb off) = .ref x :: st.map (rl bb off) := by rw [List.map_cons, hxr]
  rw [e0]
  refine lv_astore hx hb hd hL.1 (by have := hL.2; simp at this; omega) rfl (fun L' hL' => ?_)
  rw [← hxr] at hL'
  exact k h1 h2 H locs L' (hL.set1 rl_cat (i := 7) (v := Vr z) hp (by simp) hL') hW hS
theorem gx_lstore7 (hG : Cx own b mL rt isI d a n0 Q G) {x0 x1 x2 x3 x4 x5 x6 : Option Value} {y y2 : Option Value} {z : Int} (hd : decode b pc = .ok (.lstore 7, 2)) (hq : pc + 2 = q) (hp : one1 [x6] 0 = true) (k : G q (x0 :: x1 :: x2 :: x3 :: x4 :: x5 :: x6 :: some (Vj z) :: none :: ls) st n h) : G pc (x0 :: x1 :: x2 :: x3 :: x4 :: x5 :: x6 :: y :: y2 :: ls) (Vj z :: st) n h := by
  obtain ⟨p, l, e, R, s, m, args, below, meth, c, D, K, bb, off, Z, hx, hb, hml, hown, hK, hI, hR, hof, hfin, rfl⟩ := hG
  subst hq
  intro h1 h2 H locs L hL hW hS
  refine lv_lstore hx hb hd hL.1 (by have := hL.2; simp at this; omega) rfl (fun L' hL' => ?_)
  exact k h1 h2 H locs L' (hL.set2 rl_cat (i := 7) (v := Vj z) hp (by simp) hL') hW hS
theorem gx_iinc7 (hG : Cx own b mL rt isI d a n0 Q G) {x0 x1 x2 x3 x4 x5 x6 : Option Value} {z cc : Int} (hd : decode b pc = .ok (.iinc 7 cc, 3)) (hq : pc + 3 = q) (hp : one1 [x6] 0 = true) (k : G q (x0 :: x1 :: x2 :: x3 :: x4 :: x5 :: x6 :: some (Vi (z + cc)) :: ls) st n h) : G pc (x0 :: x1 :: x2 :: x3 :: x4 :: x5 :: x6 :: some (Vi z) :: ls) st n h := by
  obtain ⟨p, l, e, R, s, m, args, below, meth, c, D, K, bb, off, Z, hx, hb, hml, hown, hK, hI, hR, hof, hfin, rfl⟩ := hG
  subst hq
  intro h1 h2 H locs L hL hW hS
  obtain ⟨j, hj⟩ := List.getElem?_of_mem (asc_in (f := rl bb off) _ 0 7 (show (x0 :: x1 :: x2 :: x3 :: x4 :: x5 :: x6 :: some (Vi z) :: ls : List (Option Value))[7]? = some (some (Vi z)) from rfl))
  rw [Nat.zero_add] at hj
  refine lv_iinc hx hb hd hL.1 hj rfl (by have := hL.2; simp at this; omega) rfl (fun L' hL' => ?_)
  rw [← Int32.ofInt_add] at hL'
  exact k h1 h2 H locs L' (hL.set1 rl_cat (i := 7) (v := Vi (z + cc)) hp (by simp) hL') hW hS
theorem gx_iload8 (hG : Cx own b mL rt isI d a n0 Q G) {x0 x1 x2 x3 x4 x5 x6 x7 : Option Value} {z : Int} (hd : decode b pc = .ok (.iload 8, 2)) (hq : pc + 2 = q) (k : G q (x0 :: x1 :: x2 :: x3 :: x4 :: x5 :: x6 :: x7 :: some (Vi z) :: ls) (Vi z :: st) n h) : G pc (x0 :: x1 :: x2 :: x3 :: x4 :: x5 :: x6 :: x7 :: some (Vi z) :: ls) st n h := by
  obtain ⟨p, l, e, R, s, m, args, below, meth, c, D, K, bb, off, Z, hx, hb, hml, hown, hK, hI, hR, hof, hfin, rfl⟩ := hG
  subst hq
  intro h1 h2 H locs L hL hW hS
  exact lv_iload hx hb hd (hL.get (k := 8) (v := Vi z) rfl) (k h1 h2 H locs L hL hW hS)
theorem gx_lload8 (hG : Cx own b mL rt isI d a n0 Q G) {x0 x1 x2 x3 x4 x5 x6 x7 : Option Value} {z : Int} (hd : decode b pc = .ok (.lload 8, 2)) (hq : pc + 2 = q) (k : G q (x0 :: x1 :: x2 :: x3 :: x4 :: x5 :: x6 :: x7 :: some (Vj z) :: ls) (Vj z :: st) n h) : G pc (x0 :: x1 :: x2 :: x3 :: x4 :: x5 :: x6 :: x7 :: some (Vj z) :: ls) st n h := by
  obtain ⟨p, l, e, R, s, m, args, below, meth, c, D, K, bb, off, Z, hx, hb, hml, hown, hK, hI, hR, hof, hfin, rfl⟩ := hG
  subst hq
  intro h1 h2 H locs L hL hW hS
  exact lv_lload hx hb hd (hL.get (k := 8) (v := Vj z) rfl) (k h1 h2 H locs L hL hW hS)
theorem gx_aload8 (hG : Cx own b mL rt isI d a n0 Q G) {x0 x1 x2 x3 x4 x5 x6 x7 : Option Value} {z : Int} (hd : decode b pc = .ok (.aload 8, 2)) (hq : pc + 2 = q) (k : G q (x0 :: x1 :: x2 :: x3 :: x4 :: x5 :: x6 :: x7 :: some (Vr z) :: ls) (Vr z :: st) n h) : G pc (x0 :: x1 :: x2 :: x3 :: x4 :: x5 :: x6 :: x7 :: some (Vr z) :: ls) st n h := by
  obtain ⟨p, l, e, R, s, m, args, below, meth, c, D, K, bb, off, Z, hx, hb, hml, hown, hK, hI, hR, hof, hfin, rfl⟩ := hG
  subst hq
  intro h1 h2 H locs L hL hW hS
  obtain ⟨x, hxr⟩ := rl_ref bb off z
  have hg := hL.get (k := 8) (v := Vr z) rfl
  rw [hxr] at hg
  have kk := k h1 h2 H locs L hL hW hS
  rw [List.map_cons, hxr] at kk
  exact lv_aload hx hb hd hg kk
theorem gx_istore8 (hG : Cx own b mL rt isI d a n0 Q G) {x0 x1 x2 x3 x4 x5 x6 x7 : Option Value} {y : Option Value} {z : Int} (hd : decode b pc = .ok (.istore 8, 2)) (hq : pc + 2 = q) (hp : one1 [x7] 0 = true) (k : G q (x0 :: x1 :: x2 :: x3 :: x4 :: x5 :: x6 :: x7 :: some (Vi z) :: ls) st n h) : G pc (x0 :: x1 :: x2 :: x3 :: x4 :: x5 :: x6 :: x7 :: y :: ls) (Vi z :: st) n h := by
  obtain ⟨p, l, e, R, s, m, args, below, meth, c, D, K, bb, off, Z, hx, hb, hml, hown, hK, hI, hR, hof, hfin, rfl⟩ := hG
  subst hq
  intro h1 h2 H locs L hL hW hS
  refine lv_istore hx hb hd hL.1 (by have := hL.2; simp at this; omega) rfl (fun L' hL' => ?_)
  exact k h1 h2 H locs L' (hL.set1 rl_cat (i := 8) (v := Vi z) hp (by simp) hL') hW hS
theorem gx_astore8 (hG : Cx own b mL rt isI d a n0 Q G) {x0 x1 x2 x3 x4 x5 x6 x7 : Option Value} {y : Option Value} {z : Int} (hd : decode b pc = .ok (.astore 8, 2)) (hq : pc + 2 = q) (hp : one1 [x7] 0 = true) (k : G q (x0 :: x1 :: x2 :: x3 :: x4 :: x5 :: x6 :: x7 :: some (Vr z) :: ls) st n h) : G pc (x0 :: x1 :: x2 :: x3 :: x4 :: x5 :: x6 :: x7 :: y :: ls) (Vr z :: st) n h := by
  obtain ⟨p, l, e, R, s, m, args, below, meth, c, D, K, bb, off, Z, hx, hb, hml, hown, hK, hI, hR, hof, hfin, rfl⟩ := hG
  subst hq
  intro h1 h2 H locs L hL hW hS
  obtain ⟨x, hxr⟩ := rl_ref bb off z
  have e0 : (Vr z :: st).map (rl bb off) = .ref x :: st.map (rl bb off) := by rw [List.map_cons, hxr]
  rw [e0]
  refine lv_astore hx hb hd hL.1 (by have := hL.2; simp at this; omega) rfl (fun L' hL' => ?_)
  rw [← hxr] at hL'
  exact k h1 h2 H locs L' (hL.set1 rl_cat (i := 8) (v := Vr z) hp (by simp) hL') hW hS
theorem gx_lstore8 (hG : Cx own b mL rt isI d a n0 Q G) {x0 x1 x2 x3 x4 x5 x6 x7 : Option Value} {y y2 : Option Value} {z : Int} (hd : decode b pc = .ok (.lstore 8, 2)) (hq : pc + 2 = q) (hp : one1 [x7] 0 = true) (k : G q (x0 :: x1 :: x2 :: x3 :: x4 :: x5 :: x6 :: x7 :: some (Vj z) :: none :: ls) st n h) : G pc (x0 :: x1 :: x2 :: x3 :: x4 :: x5 :: x6 :: x7 :: y :: y2 :: ls) (Vj z :: st) n h := by
  obtain ⟨p, l, e, R, s, m, args, below, meth, c, D, K, bb, off, Z, hx, hb, hml, hown, hK, hI, hR, hof, hfin, rfl⟩ := hG
  subst hq
  intro h1 h2 H locs L hL hW hS
  refine lv_lstore hx hb hd hL.1 (by have := hL.2; simp at this; omega) rfl (fun L' hL' => ?_)
  exact k h1 h2 H locs L' (hL.set2 rl_cat (i := 8) (v := Vj z) hp (by simp) hL') hW hS
theorem gx_iinc8 (hG : Cx own b mL rt isI d a n0 Q G) {x0 x1 x2 x3 x4 x5 x6 x7 : Option Value} {z cc : Int} (hd : decode b pc = .ok (.iinc 8 cc, 3)) (hq : pc + 3 = q) (hp : one1 [x7] 0 = true) (k : G q (x0 :: x1 :: x2 :: x3 :: x4 :: x5 :: x6 :: x7 :: some (Vi (z + cc)) :: ls) st n h) : G pc (x0 :: x1 :: x2 :: x3 :: x4 :: x5 :: x6 :: x7 :: some (Vi z) :: ls) st n h := by
  obtain ⟨p, l, e, R, s, m, args, below, meth, c, D, K, bb, off, Z, hx, hb, hml, hown, hK, hI, hR, hof, hfin, rfl⟩ := hG
  subst hq
  intro h1 h2 H locs L hL hW hS
  obtain ⟨j, hj⟩ := List.getElem?_of_mem (asc_in (f := rl bb off) _ 0 8 (show (x0 :: x1 :: x2 :: x3 :: x4 :: x5 :: x6 :: x7 :: some (Vi z) :: ls : List (Option Value))[8]? = some (some (Vi z)) from rfl))
  rw [Nat.zero_add] at hj
  refine lv_iinc hx hb hd hL.1 hj rfl (by have := hL.2; simp at this; omega) rfl (fun L' hL' => ?_)
  rw [← Int32.ofInt_add] at hL'
  exact k h1 h2 H locs L' (hL.set1 rl_cat (i := 8) (v := Vi (z + cc)) hp (by simp) hL') hW hS
theorem gx_iload9 (hG : Cx own b mL rt isI d a n0 Q G) {x0 x1 x2 x3 x4 x5 x6 x7 x8 : Option Value} {z : Int} (hd : decode b pc = .ok (.iload 9, 2)) (hq : pc + 2 = q) (k : G q (x0 :: x1 :: x2 :: x3 :: x4 :: x5 :: x6 :: x7 :: x8 :: some (Vi z) :: ls) (Vi z :: st) n h) : G pc (x0 :: x1 :: x2 :: x3 :: x4 :: x5 :: x6 :: x7 :: x8 :: some (Vi z) :: ls) st n h := by
  obtain ⟨p, l, e, R, s, m, args, below, meth, c, D, K, bb, off, Z, hx, hb, hml, hown, hK, hI, hR, hof, hfin, rfl⟩ := hG
  subst hq
  intro h1 h2 H locs L hL hW hS
  exact lv_iload hx hb hd (hL.get (k := 9) (v := Vi z) rfl) (k h1 h2 H locs L hL hW hS)
theorem gx_lload9 (hG : Cx own b mL rt isI d a n0 Q G) {x0 x1 x2 x3 x4 x5 x6 x7 x8 : Option Value} {z : Int} (hd : decode b pc = .ok (.lload 9, 2)) (hq : pc + 2 = q) (k : G q (x0 :: x1 :: x2 :: x3 :: x4 :: x5 :: x6 :: x7 :: x8 :: some (Vj z) :: ls) (Vj z :: st) n h) : G pc (x0 :: x1 :: x2 :: x3 :: x4 :: x5 :: x6 :: x7 :: x8 :: some (Vj z) :: ls) st n h := by
  obtain ⟨p, l, e, R, s, m, args, below, meth, c, D, K, bb, off, Z, hx, hb, hml, hown, hK, hI, hR, hof, hfin, rfl⟩ := hG
  subst hq
  intro h1 h2 H locs L hL hW hS
  exact lv_lload hx hb hd (hL.get (k := 9) (v := Vj z) rfl) (k h1 h2 H locs L hL hW hS)
theorem gx_aload9 (hG : Cx own b mL rt isI d a n0 Q G) {x0 x1 x2 x3 x4 x5 x6 x7 x8 : Option Value} {z : Int} (hd : decode b pc = .ok (.aload 9, 2)) (hq : pc + 2 = q) (k : G q (x0 :: x1 :: x2 :: x3 :: x4 :: x5 :: x6 :: x7 :: x8 :: some (Vr z) :: ls) (Vr z :: st) n h) : G pc (x0 :: x1 :: x2 :: x3 :: x4 :: x5 :: x6 :: x7 :: x8 :: some (Vr z) :: ls) st n h := by
  obtain ⟨p, l, e, R, s, m, args, below, meth, c, D, K, bb, off, Z, hx, hb, hml, hown, hK, hI, hR, hof, hfin, rfl⟩ := hG
  subst hq
  intro h1 h2 H locs L hL hW hS
  obtain ⟨x, hxr⟩ := rl_ref bb off z
  have hg := hL.get (k := 9) (v := Vr z) rfl
  rw [hxr] at hg
  have kk := k h1 h2 H locs L hL hW hS
  rw [List.map_cons, hxr] at kk
  exact lv_aload hx hb hd hg kk
theorem gx_istore9 (hG : Cx own b mL rt isI d a n0 Q G) {x0 x1 x2 x3 x4 x5 x6 x7 x8 : Option Value} {y : Option Value} {z : Int} (hd : decode b pc = .ok (.istore 9, 2)) (hq : pc + 2 = q) (hp : one1 [x8] 0 = true) (k : G q (x0 :: x1 :: x2 :: x3 :: x4 :: x5 :: x6 :: x7 :: x8 :: some (Vi z) :: ls) st n h) : G pc (x0 :: x1 :: x2 :: x3 :: x4 :: x5 :: x6 :: x7 :: x8 :: y :: ls) (Vi z :: st) n h := by
  obtain ⟨p, l, e, R, s, m, args, below, meth, c, D, K, bb, off, Z, hx, hb, hml, hown, hK, hI, hR, hof, hfin, rfl⟩ := hG
  subst hq
  intro h1 h2 H locs L hL hW hS
  refine lv_istore hx hb hd hL.1 (by have := hL.2; simp at this; omega) rfl (fun L' hL' => ?_)
  exact k h1 h2 H locs L' (hL.set1 rl_cat (i := 9) (v := Vi z) hp (by simp) hL') hW hS
theorem gx_astore9 (hG : Cx own b mL rt isI d a n0 Q G) {x0 x1 x2 x3 x4 x5 x6 x7 x8 : Option Value} {y : Option Value} {z : Int} (hd : decode b pc = .ok (.astore 9, 2)) (hq : pc + 2 = q) (hp : one1 [x8] 0 = true) (k : G q (x0 :: x1 :: x2 :: x3 :: x4 :: x5 :: x6 :: x7 :: x8 :: some (Vr z) :: ls) st n h) : G pc (x0 :: x1 :: x2 :: x3 :: x4 :: x5 :: x6 :: x7 :: x8 :: y :: ls) (Vr z :: st) n h := by
  obtain ⟨p, l, e, R, s, m, args, below, meth, c, D, K, bb, off, Z, hx, hb, hml, hown, hK, hI, hR, hof, hfin, rfl⟩ := hG
  subst hq
  intro h1 h2 H locs L hL hW hS
  obtain ⟨x, hxr⟩ := rl_ref bb off z
  have e0 : (Vr z :: st).map (rl bb off) = .ref x :: st.map (rl bb off) := by rw [List.map_cons, hxr]
  rw [e0]
  refine lv_astore hx hb hd hL.1 (by have := hL.2; simp at this; omega) rfl (fun L' hL' => ?_)
  rw [← hxr] at hL'
  exact k h1 h2 H locs L' (hL.set1 rl_cat (i := 9) (v := Vr z) hp (by simp) hL') hW hS
theorem gx_lstore9 (hG : Cx own b mL rt isI d a n0 Q G) {x0 x1 x2 x3 x4 x5 x6 x7 x8 : Option Value} {y y2 : Option Value} {z : Int} (hd : decode b pc = .ok (.lstore 9, 2)) (hq : pc + 2 = q) (hp : one1 [x8] 0 = true) (k : G q (x0 :: x1 :: x2 :: x3 :: x4 :: x5 :: x6 :: x7 :: x8 :: some (Vj z) :: none :: ls) st n h) : G pc (x0 :: x1 :: x2 :: x3 :: x4 :: x5 :: x6 :: x7 :: x8 :: y :: y2 :: ls) (Vj z :: st) n h := by
  obtain ⟨p, l, e, R, s, m, args, below, meth, c, D, K, bb, off, Z, hx, hb, hml, hown, hK, hI, hR, hof, hfin, rfl⟩ := hG
  subst hq
  intro h1 h2 H locs L hL hW hS
  refine lv_lstore hx hb hd hL.1 (by have := hL.2; simp at this; omega) rfl (fun L' hL' => ?_)
  exact k h1 h2 H locs L' (hL.set2 rl_cat (i := 9) (v := Vj z) hp (by simp) hL') hW hS
theorem gx_iinc9 (hG : Cx own b mL rt isI d a n0 Q G) {x0 x1 x2 x3 x4 x5 x6 x7 x8 : Option Value} {z cc : Int} (hd : decode b pc = .ok (.iinc 9 cc, 3)) (hq : pc + 3 = q) (hp : one1 [x8] 0 = true) (k : G q (x0 :: x1 :: x2 :: x3 :: x4 :: x5 :: x6 :: x7 :: x8 :: some (Vi (z + cc)) :: ls) st n h) : G pc (x0 :: x1 :: x2 :: x3 :: x4 :: x5 :: x6 :: x7 :: x8 :: some (Vi z) :: ls) st n h := by
  obtain ⟨p, l, e, R, s, m, args, below, meth, c, D, K, bb, off, Z, hx, hb, hml, hown, hK, hI, hR, hof, hfin, rfl⟩ := hG
  subst hq
  intro h1 h2 H locs L hL hW hS
  obtain ⟨j, hj⟩ := List.getElem?_of_mem (asc_in (f := rl bb off) _ 0 9 (show (x0 :: x1 :: x2 :: x3 :: x4 :: x5 :: x6 :: x7 :: x8 :: some (Vi z) :: ls : List (Option Value))[9]? = some (some (Vi z)) from rfl))
  rw [Nat.zero_add] at hj
  refine lv_iinc hx hb hd hL.1 hj rfl (by have := hL.2; simp at this; omega) rfl (fun L' hL' => ?_)
  rw [← Int32.ofInt_add] at hL'
  exact k h1 h2 H locs L' (hL.set1 rl_cat (i := 9) (v := Vi (z + cc)) hp (by simp) hL') hW hS
theorem gx_iload10 (hG : Cx own b mL rt isI d a n0 Q G) {x0 x1 x2 x3 x4 x5 x6 x7 x8 x9 : Option Value} {z : Int} (hd : decode b pc = .ok (.iload 10, 2)) (hq : pc + 2 = q) (k : G q (x0 :: x1 :: x2 :: x3 :: x4 :: x5 :: x6 :: x7 :: x8 :: x9 :: some (Vi z) :: ls) (Vi z :: st) n h) : G pc (x0 :: x1 :: x2 :: x3 :: x4 :: x5 :: x6 :: x7 :: x8 :: x9 :: some (Vi z) :: ls) st n h := by
  obtain ⟨p, l, e, R, s, m, args, below, meth, c, D, K, bb, off, Z, hx, hb, hml, hown, hK, hI, hR, hof, hfin, rfl⟩ := hG
  subst hq
  intro h1 h2 H locs L hL hW hS
  exact lv_iload hx hb hd (hL.get (k := 10) (v := Vi z) rfl) (k h1 h2 H locs L hL hW hS)
theorem gx_lload10 (hG : Cx own b mL rt isI d a n0 Q G) {x0 x1 x2 x3 x4 x5 x6 x7 x8 x9 : Option Value} {z : Int} (hd : decode b pc = .ok (.lload 10, 2)) (hq : pc + 2 = q) (k : G q (x0 :: x1 :: x2 :: x3 :: x4 :: x5 :: x6 :: x7 :: x8 :: x9 :: some (Vj z) :: ls) (Vj z :: st) n h) : G pc (x0 :: x1 :: x2 :: x3 :: x4 :: x5 :: x6 :: x7 :: x8 :: x9 :: some (Vj z) :: ls) st n h := by
  obtain ⟨p, l, e, R, s, m, args, below, meth, c, D, K, bb, off, Z, hx, hb, hml, hown, hK, hI, hR, hof, hfin, rfl⟩ := hG
  subst hq
  intro h1 h2 H locs L hL hW hS
  exact lv_lload hx hb hd (hL.get (k := 10) (v := Vj z) rfl) (k h1 h2 H locs L hL hW hS)
theorem gx_aload10 (hG : Cx own b mL rt isI d a n0 Q G) {x0 x1 x2 x3 x4 x5 x6 x7 x8 x9 : Option Value} {z : Int} (hd : decode b pc = .ok (.aload 10, 2)) (hq : pc + 2 = q) (k : G q (x0 :: x1 :: x2 :: x3 :: x4 :: x5 :: x6 :: x7 :: x8 :: x9 :: some (Vr z) :: ls) (Vr z :: st) n h) : G pc (x0 :: x1 :: x2 :: x3 :: x4 :: x5 :: x6 :: x7 :: x8 :: x9 :: some (Vr z) :: ls) st n h := by
  obtain ⟨p, l, e, R, s, m, args, below, meth, c, D, K, bb, off, Z, hx, hb, hml, hown, hK, hI, hR, hof, hfin, rfl⟩ := hG
  subst hq
  intro h1 h2 H locs L hL hW hS
  obtain ⟨x, hxr⟩ := rl_ref bb off z
  have hg := hL.get (k := 10) (v := Vr z) rfl
  rw [hxr] at hg
  have kk := k h1 h2 H locs L hL hW hS
  rw [List.map_cons, hxr] at kk
  exact lv_aload hx hb hd hg kk
theorem gx_istore10 (hG : Cx own b mL rt isI d a n0 Q G) {x0 x1 x2 x3 x4 x5 x6 x7 x8 x9 : Option Value} {y : Option Value} {z : Int} (hd : decode b pc = .ok (.istore 10, 2)) (hq : pc + 2 = q) (hp : one1 [x9] 0 = true) (k : G q (x0 :: x1 :: x2 :: x3 :: x4 :: x5 :: x6 :: x7 :: x8 :: x9 :: some (Vi z) :: ls) st n h) : G pc (x0 :: x1 :: x2 :: x3 :: x4 :: x5 :: x6 :: x7 :: x8 :: x9 :: y :: ls) (Vi z :: st) n h := by
  obtain ⟨p, l, e, R, s, m, args, below, meth, c, D, K, bb, off, Z, hx, hb, hml, hown, hK, hI, hR, hof, hfin, rfl⟩ := hG
  subst hq
  intro h1 h2 H locs L hL hW hS
  refine lv_istore hx hb hd hL.1 (by have := hL.2; simp at this; omega) rfl (fun L' hL' => ?_)
  exact k h1 h2 H locs L' (hL.set1 rl_cat (i := 10) (v := Vi z) hp (by simp) hL') hW hS
theorem gx_astore10 (hG : Cx own b mL rt isI d a n0 Q G) {x0 x1 x2 x3 x4 x5 x6 x7 x8 x9 : Option Value} {y : Option Value} {z : Int} (hd : decode b pc = .ok (.astore 10, 2)) (hq : pc + 2 = q) (hp : one1 [x9] 0 = true) (k : G q (x0 :: x1 :: x2 :: x3 :: x4 :: x5 :: x6 :: x7 :: x8 :: x9 :: some (Vr z) :: ls) st n h) : G pc (x0 :: x1 :: x2 :: x3 :: x4 :: x5 :: x6 :: x7 :: x8 :: x9 :: y :: ls) (Vr z :: st) n h := by
  obtain ⟨p, l, e, R, s, m, args, below, meth, c, D, K, bb, off, Z, hx, hb, hml, hown, hK, hI, hR, hof, hfin, rfl⟩ := hG
  subst hq
  intro h1 h2 H locs L hL hW hS
  obtain ⟨x, hxr⟩ := rl_ref bb off z
  have e0 : (Vr z :: st).map (rl bb off) = .ref x :: st.map (rl bb off) := by rw [List.map_cons, hxr]
  rw [e0]
  refine lv_astore hx hb hd hL.1 (by have := hL.2; simp at this; omega) rfl (fun L' hL' => ?_)
  rw [← hxr] at hL'
  exact k h1 h2 H locs L' (hL.set1 rl_cat (i := 10) (v := Vr z) hp (by simp) hL') hW hS
theorem gx_lstore10 (hG : Cx own b mL rt isI d a n0 Q G) {x0 x1 x2 x3 x4 x5 x6 x7 x8 x9 : Option Value} {y y2 : Option Value} {z : Int} (hd : decode b pc = .ok (.lstore 10, 2)) (hq : pc + 2 = q) (hp : one1 [x9] 0 = true) (k : G q (x0 :: x1 :: x2 :: x3 :: x4 :: x5 :: x6 :: x7 :: x8 :: x9 :: some (Vj z) :: none :: ls) st n h) : G pc (x0 :: x1 :: x2 :: x3 :: x4 :: x5 :: x6 :: x7 :: x8 :: x9 :: y :: y2 :: ls) (Vj z :: st) n h := by
  obtain ⟨p, l, e, R, s, m, args, below, meth, c, D, K, bb, off, Z, hx, hb, hml, hown, hK, hI, hR, hof, hfin, rfl⟩ := hG
  subst hq
  intro h1 h2 H locs L hL hW hS
  refine lv_lstore hx hb hd hL.1 (by have := hL.2; simp at this; omega) rfl (fun L' hL' => ?_)
  exact k h1 h2 H locs L' (hL.set2 rl_cat (i := 10) (v := Vj z) hp (by simp) hL') hW hS
theorem gx_iinc10 (hG : Cx own b mL rt isI d a n0 Q G) {x0 x1 x2 x3 x4 x5 x6 x7 x8 x9 : Option Value} {z cc : Int} (hd : decode b pc = .ok (.iinc 10 cc, 3)) (hq : pc + 3 = q) (hp : one1 [x9] 0 = true) (k : G q (x0 :: x1 :: x2 :: x3 :: x4 :: x5 :: x6 :: x7 :: x8 :: x9 :: some (Vi (z + cc)) :: ls) st n h) : G pc (x0 :: x1 :: x2 :: x3 :: x4 :: x5 :: x6 :: x7 :: x8 :: x9 :: some (Vi z) :: ls) st n h := by
  obtain ⟨p, l, e, R, s, m, args, below, meth, c, D, K, bb, off, Z, hx, hb, hml, hown, hK, hI, hR, hof, hfin, rfl⟩ := hG
  subst hq
  intro h1 h2 H locs L hL hW hS
  obtain ⟨j, hj⟩ := List.getElem?_of_mem (asc_in (f := rl bb off) _ 0 10 (show (x0 :: x1 :: x2 :: x3 :: x4 :: x5 :: x6 :: x7 :: x8 :: x9 :: some (Vi z) :: ls : List (Option Value))[10]? = some (some (Vi z)) from rfl))
  rw [Nat.zero_add] at hj
  refine lv_iinc hx hb hd hL.1 hj rfl (by have := hL.2; simp at this; omega) rfl (fun L' hL' => ?_)
  rw [← Int32.ofInt_add] at hL'
  exact k h1 h2 H locs L' (hL.set1 rl_cat (i := 10) (v := Vi (z + cc)) hp (by simp) hL') hW hS
theorem gx_iload11 (hG : Cx own b mL rt isI d a n0 Q G) {x0 x1 x2 x3 x4 x5 x6 x7 x8 x9 x10 : Option Value} {z : Int} (hd : decode b pc = .ok (.iload 11, 2)) (hq : pc + 2 = q) (k : G q (x0 :: x1 :: x2 :: x3 :: x4 :: x5 :: x6 :: x7 :: x8 :: x9 :: x10 :: some (Vi z) :: ls) (Vi z :: st) n h) : G pc (x0 :: x1 :: x2 :: x3 :: x4 :: x5 :: x6 :: x7 :: x8 :: x9 :: x10 :: some (Vi z) :: ls) st n h := by
  obtain ⟨p, l, e, R, s, m, args, below, meth, c, D, K, bb, off, Z, hx, hb, hml, hown, hK, hI, hR, hof, hfin, rfl⟩ := hG
  subst hq
  intro h1 h2 H locs L hL hW hS
  exact lv_iload hx hb hd (hL.get (k := 11) (v := Vi z) rfl) (k h1 h2 H locs L hL hW hS)
theorem gx_lload11 (hG : Cx own b mL rt isI d a n0 Q G) {x0 x1 x2 x3 x4 x5 x6 x7 x8 x9 x10 : Option Value} {z : Int} (hd : decode b pc = .ok (.lload 11, 2)) (hq : pc + 2 = q) (k : G q (x0 :: x1 :: x2 :: x3 :: x4 :: x5 :: x6 :: x7 :: x8 :: x9 :: x10 :: some (Vj z) :: ls) (Vj z :: st) n h) : G pc (x0 :: x1 :: x2 :: x3 :: x4 :: x5 :: x6 :: x7 :: x8 :: x9 :: x10 :: some (Vj z) :: ls) st n h := by
  obtain ⟨p, l, e, R, s, m, args, below, meth, c, D, K, bb, off, Z, hx, hb, hml, hown, hK, hI, hR, hof, hfin, rfl⟩ := hG
  subst hq
  intro h1 h2 H locs L hL hW hS
  exact lv_lload hx hb hd (hL.get (k := 11) (v := Vj z) rfl) (k h1 h2 H locs L hL hW hS)
theorem gx_aload11 (hG : Cx own b mL rt isI d a n0 Q G) {x0 x1 x2 x3 x4 x5 x6 x7 x8 x9 x10 : Option Value} {z : Int} (hd : decode b pc = .ok (.aload 11, 2)) (hq : pc + 2 = q) (k : G q (x0 :: x1 :: x2 :: x3 :: x4 :: x5 :: x6 :: x7 :: x8 :: x9 :: x10 :: some (Vr z) :: ls) (Vr z :: st) n h) : G pc (x0 :: x1 :: x2 :: x3 :: x4 :: x5 :: x6 :: x7 :: x8 :: x9 :: x10 :: some (Vr z) :: ls) st n h := by
  obtain ⟨p, l, e, R, s, m, args, below, meth, c, D, K, bb, off, Z, hx, hb, hml, hown, hK, hI, hR, hof, hfin, rfl⟩ := hG
  subst hq
  intro h1 h2 H locs L hL hW hS
  obtain ⟨x, hxr⟩ := rl_ref bb off z
  have hg := hL.get (k := 11) (v := Vr z) rfl
  rw [hxr] at hg
  have kk := k h1 h2 H locs L hL hW hS
  rw [List.map_cons, hxr] at kk
  exact lv_aload hx hb hd hg kk
theorem gx_istore11 (hG : Cx own b mL rt isI d a n0 Q G) {x0 x1 x2 x3 x4 x5 x6 x7 x8 x9 x10 : Option Value} {y : Option Value} {z : Int} (hd : decode b pc = .ok (.istore 11, 2)) (hq : pc + 2 = q) (hp : one1 [x10] 0 = true) (k : G q (x0 :: x1 :: x2 :: x3 :: x4 :: x5 :: x6 :: x7 :: x8 :: x9 :: x10 :: some (Vi z) :: ls) st n h) : G pc (x0 :: x1 :: x2 :: x3 :: x4 :: x5 :: x6 :: x7 :: x8 :: x9 :: x10 :: y :: ls) (Vi z :: st) n h := by
  obtain ⟨p, l, e, R, s, m, args, below, meth, c, D, K, bb, off, Z, hx, hb, hml, hown, hK, hI, hR, hof, hfin, rfl⟩ := hG
  subst hq
  intro h1 h2 H locs L hL hW hS
  refine lv_istore hx hb hd hL.1 (by have := hL.2; simp at this; omega) rfl (fun L' hL' => ?_)
  exact k h1 h2 H locs L' (hL.set1 rl_cat (i := 11) (v := Vi z) hp (by simp) hL') hW hS
theorem gx_astore11 (hG : Cx own b mL rt isI d a n0 Q G) {x0 x1 x2 x3 x4 x5 x6 x7 x8 x9 x10 : Option Value} {y : Option Value} {z : Int} (hd : decode b pc = .ok (.astore 11, 2)) (hq : pc + 2 = q) (hp : one1 [x10] 0 = true) (k : G q (x0 :: x1 :: x2 :: x3 :: x4 :: x5 :: x6 :: x7 :: x8 :: x9 :: x10 :: some (Vr z) :: ls) st n h) : G pc (x0 :: x1 :: x2 :: x3 :: x4 :: x5 :: x6 :: x7 :: x8 :: x9 :: x10 :: y :: ls) (Vr z :: st) n h := by
  obtain ⟨p, l, e, R, s, m, args, below, meth, c, D, K, bb, off, Z, hx, hb, hml, hown, hK, hI, hR, hof, hfin, rfl⟩ := hG
  subst hq
  intro h1 h2 H locs L hL hW hS
  obtain ⟨x, hxr⟩ := rl_ref bb off z
  have e0 : (Vr z :: st).map (rl bb off) = .ref x :: st.map (rl bb off) := by rw [List.map_cons, hxr]
  rw [e0]
  refine lv_astore hx hb hd hL.1 (by have := hL.2; simp at this; omega) rfl (fun L' hL' => ?_)
  rw [← hxr] at hL'
  exact k h1 h2 H locs L' (hL.set1 rl_cat (i := 11) (v := Vr z) hp (by simp) hL') hW hS
theorem gx_lstore11 (hG : Cx own b mL rt isI d a n0 Q G) {x0 x1 x2 x3 x4 x5 x6 x7 x8 x9 x10 : Option Value} {y y2 : Option Value} {z : Int} (hd : decode b pc = .ok (.lstore 11, 2)) (hq : pc + 2 = q) (hp : one1 [x10] 0 = true) (k : G q (x0 :: x1 :: x2 :: x3 :: x4 :: x5 :: x6 :: x7 :: x8 :: x9 :: x10 :: some (Vj z) :: none :: ls) st n h) : G pc (x0 :: x1 :: x2 :: x3 :: x4 :: x5 :: x6 :: x7 :: x8 :: x9 :: x10 :: y :: y2 :: ls) (Vj z :: st) n h := by
  obtain ⟨p, l, e, R, s, m, args, below, meth, c, D, K, bb, off, Z, hx, hb, hml, hown, hK, hI, hR, hof, hfin, rfl⟩ := hG
  subst hq
  intro h1 h2 H locs L hL hW hS
  refine lv_lstore hx hb hd hL.1 (by have := hL.2; simp at this; omega) rfl (fun L' hL' => ?_)
  exact k h1 h2 H locs L' (hL.set2 rl_cat (i := 11) (v := Vj z) hp (by simp) hL') hW hS
theorem gx_iinc11 (hG : Cx own b mL rt isI d a n0 Q G) {x0 x1 x2 x3 x4 x5 x6 x7 x8 x9 x10 : Option Value} {z cc : Int} (hd : decode b pc = .ok (.iinc 11 cc, 3)) (hq : pc + 3 = q) (hp : one1 [x10] 0 = true) (k : G q (x0 :: x1 :: x2 :: x3 :: x4 :: x5 :: x6 :: x7 :: x8 :: x9 :: x10 :: some (Vi (z + cc)) :: ls) st n h) : G pc (x0 :: x1 :: x2 :: x3 :: x4 :: x5 :: x6 :: x7 :: x8 :: x9 :: x10 :: some (Vi z) :: ls) st n h := by
  obtain ⟨p, l, e, R, s, m, args, below, meth, c, D, K, bb, off, Z, hx, hb, hml, hown, hK, hI, hR, hof, hfin, rfl⟩ := hG
  subst hq
  intro h1 h2 H locs L hL hW hS
  obtain ⟨j, hj⟩ := List.getElem?_of_mem (asc_in (f := rl bb off) _ 0 11 (show (x0 :: x1 :: x2 :: x3 :: x4 :: x5 :: x6 :: x7 :: x8 :: x9 :: x10 :: some (Vi z) :: ls : List (Option Value))[11]? = some (some (Vi z)) from rfl))
  rw [Nat.zero_add] at hj
  refine lv_iinc hx hb hd hL.1 hj rfl (by have := hL.2; simp at this; omega) rfl (fun L' hL' => ?_)
  rw [← Int32.ofInt_add] at hL'
  exact k h1 h2 H locs L' (hL.set1 rl_cat (i := 11) (v := Vi (z + cc)) hp (by simp) hL') hW hS
theorem gx_iconst (hG : Cx own b mL rt isI d a n0 Q G) {z : Int} (hd : decode b pc = .ok (.iconst z, 1)) (hq : pc + 1 = q) (k : G q ls (Vi z :: st) n h) : G pc ls st n h := by
  obtain ⟨p, l, e, R, s, m, args, below, meth, c, D, K, bb, off, Z, hx, hb, hml, hown, hK, hI, hR, hof, hfin, rfl⟩ := hG
  subst hq
  intro h1 h2 H locs L hL hW hS
  exact lv_iconst hx hb hd rfl (k h1 h2 H locs L hL hW hS)
theorem gx_bipush (hG : Cx own b mL rt isI d a n0 Q G) {z : Int} (hd : decode b pc = .ok (.bipush z, 2)) (hq : pc + 2 = q) (hz : (Int8.ofInt z).toInt32 = Int32.ofInt z) (k : G q ls (Vi z :: st) n h) : G pc ls st n h := by
  obtain ⟨p, l, e, R, s, m, args, below, meth, c, D, K, bb, off, Z, hx, hb, hml, hown, hK, hI, hR, hof, hfin, rfl⟩ := hG
  subst hq
  intro h1 h2 H locs L hL hW hS
  refine lv_bipush hx hb hd hz (k h1 h2 H locs L hL hW hS)
theorem gx_sipush (hG : Cx own b mL rt isI d a n0 Q G) {z : Int} (hd : decode b pc = .ok (.sipush z, 3)) (hq : pc + 3 = q) (hz : (Int16.ofInt z).toInt32 = Int32.ofInt z) (k : G q ls (Vi z :: st) n h) : G pc ls st n h := by
  obtain ⟨p, l, e, R, s, m, args, below, meth, c, D, K, bb, off, Z, hx, hb, hml, hown, hK, hI, hR, hof, hfin, rfl⟩ := hG
  subst hq
  intro h1 h2 H locs L hL hW hS
  refine lv_sipush hx hb hd hz (k h1 h2 H locs L hL hW hS)
theorem gx_lconst (hG : Cx own b mL rt isI d a n0 Q G) {f : Fin 2} (z : Int) (hd : decode b pc = .ok (.lconst f, 1)) (hq : pc + 1 = q) (hz : Int64.ofNat (f : Nat) = Int64.ofInt z) (k : G q ls (Vj z :: st) n h) : G pc ls st n h := by
  obtain ⟨p, l, e, R, s, m, args, below, meth, c, D, K, bb, off, Z, hx, hb, hml, hown, hK, hI, hR, hof, hfin, rfl⟩ := hG
  subst hq
  intro h1 h2 H locs L hL hW hS
  refine lv_lconst hx hb hd hz (k h1 h2 H locs L hL hW hS)
theorem gx_ldc (hG : Cx own b mL rt isI d a n0 Q G) {v : Int32} {idx : Nat} (z : Int) (hc : Cond.constant own idx v ∈ lw_tbl) (hd : decode b pc = .ok (.ldc idx, 2)) (hq : pc + 2 = q) (hz : v = Int32.ofInt z) (k : G q ls (Vi z :: st) n h) : G pc ls st n h := by
  obtain ⟨p, l, e, R, s, m, args, below, meth, c, D, K, bb, off, Z, hx, hb, hml, hown, hK, hI, hR, hof, hfin, rfl⟩ := hG
  subst hq
  intro h1 h2 H locs L hL hW hS
  subst hz
  exact lv_ldc hx hb hown (hK.2.2 _ _ (gtb_in hc rfl)) hd (k h1 h2 H locs L hL hW hS)
theorem gx_ldc2 (hG : Cx own b mL rt isI d a n0 Q G) {v : Int64} {idx : Nat} (z : Int) (hc : Cond.constantLong own idx v ∈ lw_tbl) (hd : decode b pc = .ok (.ldc2_w idx, 3)) (hq : pc + 3 = q) (hz : v = Int64.ofInt z) (k : G q ls (Vj z :: st) n h) : G pc ls st n h := by
  obtain ⟨p, l, e, R, s, m, args, below, meth, c, D, K, bb, off, Z, hx, hb, hml, hown, hK, hI, hR, hof, hfin, rfl⟩ := hG
  subst hq
  intro h1 h2 H locs L hL hW hS
  subst hz
  exact lv_ldc2 hx hb hown (hK.2.2 _ _ (gtb_in hc rfl)) hd (k h1 h2 H locs L hL hW hS)
theorem gx_iadd (hG : Cx own b mL rt isI d a n0 Q G) {x y : Int} (hd : decode b pc = .ok (.iadd, 1)) (hq : pc + 1 = q) (k : G q ls (Vi (x + y) :: st) n h) : G pc ls (Vi y :: Vi x :: st) n h := by
  obtain ⟨p, l, e, R, s, m, args, below, meth, c, D, K, bb, off, Z, hx, hb, hml, hown, hK, hI, hR, hof, hfin, rfl⟩ := hG
  subst hq
  intro h1 h2 H locs L hL hW hS
  refine lv_iadd hx hb hd ?_
  rw [← Int32.ofInt_add]
  exact k h1 h2 H locs L hL hW hS
theorem gx_ladd (hG : Cx own b mL rt isI d a n0 Q G) {x y : Int} (hd : decode b pc = .ok (.ladd, 1)) (hq : pc + 1 = q) (k : G q ls (Vj (x + y) :: st) n h) : G pc ls (Vj y :: Vj x :: st) n h := by
  obtain ⟨p, l, e, R, s, m, args, below, meth, c, D, K, bb, off, Z, hx, hb, hml, hown, hK, hI, hR, hof, hfin, rfl⟩ := hG
  subst hq
  intro h1 h2 H locs L hL hW hS
  refine lv_ladd hx hb hd ?_
  rw [← Int64.ofInt_add]
  exact k h1 h2 H locs L hL hW hS
theorem gx_isub (hG : Cx own b mL rt isI d a n0 Q G) {x y : Int} (hd : decode b pc = .ok (.isub, 1)) (hq : pc + 1 = q) (k : G q ls (Vi (x - y) :: st) n h) : G pc ls (Vi y :: Vi x :: st) n h := by
  obtain ⟨p, l, e, R, s, m, args, below, meth, c, D, K, bb, off, Z, hx, hb, hml, hown, hK, hI, hR, hof, hfin, rfl⟩ := hG
  subst hq
  intro h1 h2 H locs L hL hW hS
  refine lv_isub hx hb hd ?_
  rw [← Int32.ofInt_sub]
  exact k h1 h2 H locs L hL hW hS
theorem gx_lsub (hG : Cx own b mL rt isI d a n0 Q G) {x y : Int} (hd : decode b pc = .ok (.lsub, 1)) (hq : pc + 1 = q) (k : G q ls (Vj (x - y) :: st) n h) : G pc ls (Vj y :: Vj x :: st) n h := by
  obtain ⟨p, l, e, R, s, m, args, below, meth, c, D, K, bb, off, Z, hx, hb, hml, hown, hK, hI, hR, hof, hfin, rfl⟩ := hG
  subst hq
  intro h1 h2 H locs L hL hW hS
  refine lv_lsub hx hb hd ?_
  rw [← Int64.ofInt_sub]
  exact k h1 h2 H locs L hL hW hS
theorem gx_imul (hG : Cx own b mL rt isI d a n0 Q G) {x y : Int} (hd : decode b pc = .ok (.imul, 1)) (hq : pc + 1 = q) (k : G q ls (Vi (x * y) :: st) n h) : G pc ls (Vi y :: Vi x :: st) n h := by
  obtain ⟨p, l, e, R, s, m, args, below, meth, c, D, K, bb, off, Z, hx, hb, hml, hown, hK, hI, hR, hof, hfin, rfl⟩ := hG
  subst hq
  intro h1 h2 H locs L hL hW hS
  refine lv_imul hx hb hd ?_
  rw [← Int32.ofInt_mul]
  exact k h1 h2 H locs L hL hW hS
theorem gx_lmul (hG : Cx own b mL rt isI d a n0 Q G) {x y : Int} (hd : decode b pc = .ok (.lmul, 1)) (hq : pc + 1 = q) (k : G q ls (Vj (x * y) :: st) n h) : G pc ls (Vj y :: Vj x :: st) n h := by
  obtain ⟨p, l, e, R, s, m, args, below, meth, c, D, K, bb, off, Z, hx, hb, hml, hown, hK, hI, hR, hof, hfin, rfl⟩ := hG
  subst hq
  intro h1 h2 H locs L hL hW hS
  refine lv_lmul hx hb hd ?_
  rw [← Int64.ofInt_mul]
  exact k h1 h2 H locs L hL hW hS
theorem gx_idiv (hG : Cx own b mL rt isI d a n0 Q G) {x y : Int} (hd : decode b pc = .ok (.idiv, 1)) (hq : pc + 1 = q) (hx0 : 0 ≤ x) (hx1 : x ≤ 2147483647) (hy0 : 0 < y) (hy1 : y ≤ 2147483647) (k : G q ls (Vi (x / y) :: st) n h) : G pc ls (Vi y :: Vi x :: st) n h := by
  obtain ⟨p, l, e, R, s, m, args, below, meth, c, D, K, bb, off, Z, hx, hb, hml, hown, hK, hI, hR, hof, hfin, rfl⟩ := hG
  subst hq
  intro h1 h2 H locs L hL hW hS
  refine lv_idiv hx hb hd (by rw [← i3_zero, i3_eq ⟨by omega, by omega⟩ ⟨by omega, by omega⟩]; omega) ?_
  rw [i3_divN hx0 hx1 hy0 hy1]
  exact k h1 h2 H locs L hL hW hS
theorem gx_irem (hG : Cx own b mL rt isI d a n0 Q G) {x y : Int} (hd : decode b pc = .ok (.irem, 1)) (hq : pc + 1 = q) (hx0 : 0 ≤ x) (hx1 : x ≤ 2147483647) (hy0 : 0 < y) (hy1 : y ≤ 2147483647) (k : G q ls (Vi (x % y) :: st) n h) : G pc ls (Vi y :: Vi x :: st) n h := by
  obtain ⟨p, l, e, R, s, m, args, below, meth, c, D, K, bb, off, Z, hx, hb, hml, hown, hK, hI, hR, hof, hfin, rfl⟩ := hG
  subst hq
  intro h1 h2 H locs L hL hW hS
  refine lv_irem hx hb hd (by rw [← i3_zero, i3_eq ⟨by omega, by omega⟩ ⟨by omega, by omega⟩]; omega) ?_
  rw [i3_divN hx0 hx1 hy0 hy1, ← Int32.ofInt_mul, ← Int32.ofInt_sub]
  rw [show x - x / y * y = x % y by rw [Int.mul_comm]; have := Int.mul_ediv_add_emod x y; omega]
  exact k h1 h2 H locs L hL hW hS
theorem gx_lrem (hG : Cx own b mL rt isI d a n0 Q G) {x y : Int} (hd : decode b pc = .ok (.lrem, 1)) (hq : pc + 1 = q) (hx0 : 0 ≤ x) (hx1 : x ≤ 9223372036854775807) (hy0 : 0 < y) (hy1 : y ≤ 9223372036854775807) (k : G q ls (Vj (x % y) :: st) n h) : G pc ls (Vj y :: Vj x :: st) n h := by
  obtain ⟨p, l, e, R, s, m, args, below, meth, c, D, K, bb, off, Z, hx, hb, hml, hown, hK, hI, hR, hof, hfin, rfl⟩ := hG
  subst hq
  intro h1 h2 H locs L hL hW hS
  refine lv_lrem hx hb hd (by rw [← i6_zero, i6_eq ⟨by omega, by omega⟩ ⟨by omega, by omega⟩]; omega) ?_
  rw [i6_divT (by omega) hx1 hy0 hy1, Int.tdiv_eq_ediv_of_nonneg hx0, ← Int64.ofInt_mul, ← Int64.ofInt_sub]
  rw [show x - x / y * y = x % y by rw [Int.mul_comm]; have := Int.mul_ediv_add_emod x y; omega]
  exact k h1 h2 H locs L hL hW hS
theorem gx_ldiv (hG : Cx own b mL rt isI d a n0 Q G) {x y : Int} (hd : decode b pc = .ok (.ldiv, 1)) (hq : pc + 1 = q) (hx0 : -9223372036854775807 ≤ x) (hx1 : x ≤ 9223372036854775807) (hy0 : 0 < y) (hy1 : y ≤ 9223372036854775807) (k : G q ls (Vj (x.tdiv y) :: st) n h) : G pc ls (Vj y :: Vj x :: st) n h := by
  obtain ⟨p, l, e, R, s, m, args, below, meth, c, D, K, bb, off, Z, hx, hb, hml, hown, hK, hI, hR, hof, hfin, rfl⟩ := hG
  subst hq
  intro h1 h2 H locs L hL hW hS
  refine lv_ldiv hx hb hd (by rw [← i6_zero, i6_eq ⟨by omega, by omega⟩ ⟨by omega, by omega⟩]; omega) ?_
  rw [i6_divT hx0 hx1 hy0 hy1]
  exact k h1 h2 H locs L hL hW hS
theorem gx_iand (hG : Cx own b mL rt isI d a n0 Q G) {x y : Int} (z : Int) (hd : decode b pc = .ok (.iand, 1)) (hq : pc + 1 = q) (hz : Int32.ofInt x &&& Int32.ofInt y = Int32.ofInt z) (k : G q ls (Vi z :: st) n h) : G pc ls (Vi y :: Vi x :: st) n h := by
  obtain ⟨p, l, e, R, s, m, args, below, meth, c, D, K, bb, off, Z, hx, hb, hml, hown, hK, hI, hR, hof, hfin, rfl⟩ := hG
  subst hq
  intro h1 h2 H locs L hL hW hS
  refine lv_iand hx hb hd ?_
  rw [hz]
  exact k h1 h2 H locs L hL hW hS
theorem gx_ior (hG : Cx own b mL rt isI d a n0 Q G) {x y : Int} (z : Int) (hd : decode b pc = .ok (.ior, 1)) (hq : pc + 1 = q) (hz : Int32.ofInt x ||| Int32.ofInt y = Int32.ofInt z) (k : G q ls (Vi z :: st) n h) : G pc ls (Vi y :: Vi x :: st) n h := by
  obtain ⟨p, l, e, R, s, m, args, below, meth, c, D, K, bb, off, Z, hx, hb, hml, hown, hK, hI, hR, hof, hfin, rfl⟩ := hG
  subst hq
  intro h1 h2 H locs L hL hW hS
  refine lv_ior hx hb hd ?_
  rw [hz]
  exact k h1 h2 H locs L hL hW hS
theorem gx_ixor (hG : Cx own b mL rt isI d a n0 Q G) {x y : Int} (z : Int) (hd : decode b pc = .ok (.ixor, 1)) (hq : pc + 1 = q) (hz : Int32.ofInt x ^^^ Int32.ofInt y = Int32.ofInt z) (k : G q ls (Vi z :: st) n h) : G pc ls (Vi y :: Vi x :: st) n h := by
  obtain ⟨p, l, e, R, s, m, args, below, meth, c, D, K, bb, off, Z, hx, hb, hml, hown, hK, hI, hR, hof, hfin, rfl⟩ := hG
  subst hq
  intro h1 h2 H locs L hL hW hS
  refine lv_ixor hx hb hd ?_
  rw [hz]
  exact k h1 h2 H locs L hL hW hS
theorem gx_ishl (hG : Cx own b mL rt isI d a n0 Q G) {x y : Int} (z : Int) (hd : decode b pc = .ok (.ishl, 1)) (hq : pc + 1 = q) (hz : Int32.ofInt x <<< (Int32.ofInt y &&& 31) = Int32.ofInt z) (k : G q ls (Vi z :: st) n h) : G pc ls (Vi y :: Vi x :: st) n h := by
  obtain ⟨p, l, e, R, s, m, args, below, meth, c, D, K, bb, off, Z, hx, hb, hml, hown, hK, hI, hR, hof, hfin, rfl⟩ := hG
  subst hq
  intro h1 h2 H locs L hL hW hS
  refine lv_ishl hx hb hd ?_
  rw [hz]
  exact k h1 h2 H locs L hL hW hS
theorem gx_ishr (hG : Cx own b mL rt isI d a n0 Q G) {x y : Int} (z : Int) (hd : decode b pc = .ok (.ishr, 1)) (hq : pc + 1 = q) (hz : Int32.ofInt x >>> (Int32.ofInt y &&& 31) = Int32.ofInt z) (k : G q ls (Vi z :: st) n h) : G pc ls (Vi y :: Vi x :: st) n h := by
  obtain ⟨p, l, e, R, s, m, args, below, meth, c, D, K, bb, off, Z, hx, hb, hml, hown, hK, hI, hR, hof, hfin, rfl⟩ := hG
  subst hq
  intro h1 h2 H locs L hL hW hS
  refine lv_ishr hx hb hd ?_
  rw [hz]
  exact k h1 h2 H locs L hL hW hS
theorem gx_iushr (hG : Cx own b mL rt isI d a n0 Q G) {x y : Int} (z : Int) (hd : decode b pc = .ok (.iushr, 1)) (hq : pc + 1 = q) (hz : ((Int32.ofInt x).toUInt32 >>> ((Int32.ofInt y).toUInt32 &&& Int32.toUInt32 31)).toInt32 = Int32.ofInt z) (k : G q ls (Vi z :: st) n h) : G pc ls (Vi y :: Vi x :: st) n h := by
  obtain ⟨p, l, e, R, s, m, args, below, meth, c, D, K, bb, off, Z, hx, hb, hml, hown, hK, hI, hR, hof, hfin, rfl⟩ := hG
  subst hq
  intro h1 h2 H locs L hL hW hS
  exact lv_iushr hx hb hd hz (k h1 h2 H locs L hL hW hS)
theorem gx_lushr (hG : Cx own b mL rt isI d a n0 Q G) {x y : Int} (z : Int) (hd : decode b pc = .ok (.lushr, 1)) (hq : pc + 1 = q) (hz : ((Int64.ofInt x).toUInt64 >>> ((Int32.ofInt y).toInt64.toUInt64 &&& Int64.toUInt64 63)).toInt64 = Int64.ofInt z) (k : G q ls (Vj z :: st) n h) : G pc ls (Vi y :: Vj x :: st) n h := by
  obtain ⟨p, l, e, R, s, m, args, below, meth, c, D, K, bb, off, Z, hx, hb, hml, hown, hK, hI, hR, hof, hfin, rfl⟩ := hG
  subst hq
  intro h1 h2 H locs L hL hW hS
  exact lv_lushr hx hb hd hz (k h1 h2 H locs L hL hW hS)
theorem gx_land (hG : Cx own b mL rt isI d a n0 Q G) {x y : Int} (z : Int) (hd : decode b pc = .ok (.land, 1)) (hq : pc + 1 = q) (hz : Int64.ofInt x &&& Int64.ofInt y = Int64.ofInt z) (k : G q ls (Vj z :: st) n h) : G pc ls (Vj y :: Vj x :: st) n h := by
  obtain ⟨p, l, e, R, s, m, args, below, meth, c, D, K, bb, off, Z, hx, hb, hml, hown, hK, hI, hR, hof, hfin, rfl⟩ := hG
  subst hq
  intro h1 h2 H locs L hL hW hS
  refine lv_land hx hb hd ?_
  rw [hz]
  exact k h1 h2 H locs L hL hW hS
theorem gx_lor (hG : Cx own b mL rt isI d a n0 Q G) {x y : Int} (z : Int) (hd : decode b pc = .ok (.lor, 1)) (hq : pc + 1 = q) (hz : Int64.ofInt x ||| Int64.ofInt y = Int64.ofInt z) (k : G q ls (Vj z :: st) n h) : G pc ls (Vj y :: Vj x :: st) n h := by
  obtain ⟨p, l, e, R, s, m, args, below, meth, c, D, K, bb, off, Z, hx, hb, hml, hown, hK, hI, hR, hof, hfin, rfl⟩ := hG
  subst hq
  intro h1 h2 H locs L hL hW hS
  refine lv_lor hx hb hd ?_
  rw [hz]
  exact k h1 h2 H locs L hL hW hS
theorem gx_lxor (hG : Cx own b mL rt isI d a n0 Q G) {x y : Int} (z : Int) (hd : decode b pc = .ok (.lxor, 1)) (hq : pc + 1 = q) (hz : Int64.ofInt x ^^^ Int64.ofInt y = Int64.ofInt z) (k : G q ls (Vj z :: st) n h) : G pc ls (Vj y :: Vj x :: st) n h := by
  obtain ⟨p, l, e, R, s, m, args, below, meth, c, D, K, bb, off, Z, hx, hb, hml, hown, hK, hI, hR, hof, hfin, rfl⟩ := hG
  subst hq
  intro h1 h2 H locs L hL hW hS
  refine lv_lxor hx hb hd ?_
  rw [hz]
  exact k h1 h2 H locs L hL hW hS
theorem gx_lshl (hG : Cx own b mL rt isI d a n0 Q G) {x y : Int} (z : Int) (hd : decode b pc = .ok (.lshl, 1)) (hq : pc + 1 = q) (hz : Int64.ofInt x <<< ((Int32.ofInt y).toInt64 &&& 63) = Int64.ofInt z) (k : G q ls (Vj z :: st) n h) : G pc ls (Vi y :: Vj x :: st) n h := by
  obtain ⟨p, l, e, R, s, m, args, below, meth, c, D, K, bb, off, Z, hx, hb, hml, hown, hK, hI, hR, hof, hfin, rfl⟩ := hG
  subst hq
  intro h1 h2 H locs L hL hW hS
  exact lv_lshl hx hb hd hz (k h1 h2 H locs L hL hW hS)
theorem gx_lshr (hG : Cx own b mL rt isI d a n0 Q G) {x y : Int} (z : Int) (hd : decode b pc = .ok (.lshr, 1)) (hq : pc + 1 = q) (hz : Int64.ofInt x >>> ((Int32.ofInt y).toInt64 &&& 63) = Int64.ofInt z) (k : G q ls (Vj z :: st) n h) : G pc ls (Vi y :: Vj x :: st) n h := by
  obtain ⟨p, l, e, R, s, m, args, below, meth, c, D, K, bb, off, Z, hx, hb, hml, hown, hK, hI, hR, hof, hfin, rfl⟩ := hG
  subst hq
  intro h1 h2 H locs L hL hW hS
  exact lv_lshr hx hb hd hz (k h1 h2 H locs L hL hW hS)
theorem gx_i2l (hG : Cx own b mL rt isI d a n0 Q G) {x : Int} (hd : decode b pc = .ok (.i2l, 1)) (hq : pc + 1 = q) (hr : R3 x) (k : G q ls (Vj x :: st) n h) : G pc ls (Vi x :: st) n h := by
  obtain ⟨p, l, e, R, s, m, args, below, meth, c, D, K, bb, off, Z, hx, hb, hml, hown, hK, hI, hR, hof, hfin, rfl⟩ := hG
  subst hq
  intro h1 h2 H locs L hL hW hS
  refine lv_i2l hx hb hd ?_ (k h1 h2 H locs L hL hW hS)
  rw [← Int64.toInt_inj, Int32.toInt_toInt64, i3_toInt hr, i6_toInt ⟨by omega, by omega⟩]
theorem gx_l2i (hG : Cx own b mL rt isI d a n0 Q G) {x : Int} (hd : decode b pc = .ok (.l2i, 1)) (hq : pc + 1 = q) (k : G q ls (Vi x :: st) n h) : G pc ls (Vj x :: st) n h := by
  obtain ⟨p, l, e, R, s, m, args, below, meth, c, D, K, bb, off, Z, hx, hb, hml, hown, hK, hI, hR, hof, hfin, rfl⟩ := hG
  subst hq
  intro h1 h2 H locs L hL hW hS
  refine lv_l2i hx hb hd ?_ (k h1 h2 H locs L hL hW hS)
  exact i6_toI3 x
theorem gx_i2b (hG : Cx own b mL rt isI d a n0 Q G) {x : Int} (z : Int) (hd : decode b pc = .ok (.i2b, 1)) (hq : pc + 1 = q) (hz : (Int32.ofInt x).toInt8.toInt32 = Int32.ofInt z) (k : G q ls (Vi z :: st) n h) : G pc ls (Vi x :: st) n h := by
  obtain ⟨p, l, e, R, s, m, args, below, meth, c, D, K, bb, off, Z, hx, hb, hml, hown, hK, hI, hR, hof, hfin, rfl⟩ := hG
  subst hq
  intro h1 h2 H locs L hL hW hS
  exact lv_i2b hx hb hd hz (k h1 h2 H locs L hL hW hS)
theorem gx_lcmp (hG : Cx own b mL rt isI d a n0 Q G) {x y : Int} (hd : decode b pc = .ok (.lcmp, 1)) (hq : pc + 1 = q) (hrx : R6 x) (hry : R6 y) (k : G q ls (Vi (cmp3 x y) :: st) n h) : G pc ls (Vj y :: Vj x :: st) n h := by
  obtain ⟨p, l, e, R, s, m, args, below, meth, c, D, K, bb, off, Z, hx, hb, hml, hown, hK, hI, hR, hof, hfin, rfl⟩ := hG
  subst hq
  intro h1 h2 H locs L hL hW hS
  refine W.lcmp hx hb hd ?_
  rw [lg_cmp3 hrx hry]
  exact k h1 h2 H locs L hL hW hS
theorem gx_dupi (hG : Cx own b mL rt isI d a n0 Q G) {x : Int} (hd : decode b pc = .ok (.dup, 1)) (hq : pc + 1 = q) (k : G q ls (Vi x :: Vi x :: st) n h) : G pc ls (Vi x :: st) n h := by
  obtain ⟨p, l, e, R, s, m, args, below, meth, c, D, K, bb, off, Z, hx, hb, hml, hown, hK, hI, hR, hof, hfin, rfl⟩ := hG
  subst hq
  intro h1 h2 H locs L hL hW hS
  exact lv_dup hx hb hd rfl (k h1 h2 H locs L hL hW hS)
theorem gx_dupa (hG : Cx own b mL rt isI d a n0 Q G) {x : Int} (hd : decode b pc = .ok (.dup, 1)) (hq : pc + 1 = q) (k : G q ls (Vr x :: Vr x :: st) n h) : G pc ls (Vr x :: st) n h := by
  obtain ⟨p, l, e, R, s, m, args, below, meth, c, D, K, bb, off, Z, hx, hb, hml, hown, hK, hI, hR, hof, hfin, rfl⟩ := hG
  subst hq
  intro h1 h2 H locs L hL hW hS
  exact lv_dup hx hb hd (by rw [rl_cat]; rfl) (k h1 h2 H locs L hL hW hS)
theorem gx_dup2 (hG : Cx own b mL rt isI d a n0 Q G) {x y : Int} (hd : decode b pc = .ok (.dup2, 1)) (hq : pc + 1 = q) (k : G q ls (Vi x :: Vr y :: Vi x :: Vr y :: st) n h) : G pc ls (Vi x :: Vr y :: st) n h := by
  obtain ⟨p, l, e, R, s, m, args, below, meth, c, D, K, bb, off, Z, hx, hb, hml, hown, hK, hI, hR, hof, hfin, rfl⟩ := hG
  subst hq
  intro h1 h2 H locs L hL hW hS
  exact lv_dup2_11 hx hb hd rfl (by rw [rl_cat]; rfl) (k h1 h2 H locs L hL hW hS)
theorem gx_popi (hG : Cx own b mL rt isI d a n0 Q G) {x : Int} (hd : decode b pc = .ok (.pop, 1)) (hq : pc + 1 = q) (k : G q ls st n h) : G pc ls (Vi x :: st) n h := by
  obtain ⟨p, l, e, R, s, m, args, below, meth, c, D, K, bb, off, Z, hx, hb, hml, hown, hK, hI, hR, hof, hfin, rfl⟩ := hG
  subst hq
  intro h1 h2 H locs L hL hW hS
  exact lv_pop hx hb hd rfl (k h1 h2 H locs L hL hW hS)
theorem gx_icmp_eq (hG : Cx own b mL rt isI d a n0 Q G) {x y o : Int} (hd : decode b pc = .ok (.if_icmp .eq o, 3)) (ht : (pc : Int) + o = (tgt : Int)) (hq : pc + 3 = q) (hrx : R3 x) (hry : R3 y) (kt : x = y → G tgt ls st n h) (kf : x ≠ y → G q ls st n h) : G pc ls (Vi y :: Vi x :: st) n h := by
  obtain ⟨p, l, e, R, s, m, args, below, meth, c, D, K, bb, off, Z, hx, hb, hml, hown, hK, hI, hR, hof, hfin, rfl⟩ := hG
  subst hq
  intro h1 h2 H locs L hL hW hS
  refine lv_icmp_eq hx hb hd ht (fun cc => kt ?_ h1 h2 H locs L hL hW hS) (fun cc => kf ?_ h1 h2 H locs L hL hW hS)
  · have e := i3_eq hrx hry
    exact e.mp cc
  · have e := i3_eq hrx hry
    exact fun z => cc (e.mpr z)
theorem gx_if_eq (hG : Cx own b mL rt isI d a n0 Q G) {x o : Int} (hd : decode b pc = .ok (.ifCond .eq o, 3)) (ht : (pc : Int) + o = (tgt : Int)) (hq : pc + 3 = q) (hrx : R3 x) (kt : x = 0 → G tgt ls st n h) (kf : x ≠ 0 → G q ls st n h) : G pc ls (Vi x :: st) n h := by
  obtain ⟨p, l, e, R, s, m, args, below, meth, c, D, K, bb, off, Z, hx, hb, hml, hown, hK, hI, hR, hof, hfin, rfl⟩ := hG
  subst hq
  intro h1 h2 H locs L hL hW hS
  have hry : R3 0 := by decide
  refine lv_if_eq hx hb hd ht (fun cc => kt ?_ h1 h2 H locs L hL hW hS) (fun cc => kf ?_ h1 h2 H locs L hL hW hS)
  · have e := i3_eq hrx hry
    rw [i3_zero] at e
    exact e.mp cc
  · have e := i3_eq hrx hry
    rw [i3_zero] at e
    exact fun z => cc (e.mpr z)
theorem gx_icmp_ne (hG : Cx own b mL rt isI d a n0 Q G) {x y o : Int} (hd : decode b pc = .ok (.if_icmp .ne o, 3)) (ht : (pc : Int) + o = (tgt : Int)) (hq : pc + 3 = q) (hrx : R3 x) (hry : R3 y) (kt : x ≠ y → G tgt ls st n h) (kf : x = y → G q ls st n h) : G pc ls (Vi y :: Vi x :: st) n h := by
  obtain ⟨p, l, e, R, s, m, args, below, meth, c, D, K, bb, off, Z, hx, hb, hml, hown, hK, hI, hR, hof, hfin, rfl⟩ := hG
  subst hq
  intro h1 h2 H locs L hL hW hS
  refine lv_icmp_ne hx hb hd ht (fun cc => kt ?_ h1 h2 H locs L hL hW hS) (fun cc => kf ?_ h1 h2 H locs L hL hW hS)
  · have e := i3_eq hrx hry
    exact fun z => cc (e.mpr z)
  · have e := i3_eq hrx hry
    exact e.mp cc
theorem gx_if_ne (hG : Cx own b mL rt isI d a n0 Q G) {x o : Int} (hd : decode b pc = .ok (.ifCond .ne o, 3)) (ht : (pc : Int) + o = (tgt : Int)) (hq : pc + 3 = q) (hrx : R3 x) (kt : x ≠ 0 → G tgt ls st n h) (kf : x = 0 → G q ls st n h) : G pc ls (Vi x :: st) n h := by
  obtain ⟨p, l, e, R, s, m, args, below, meth, c, D, K, bb, off, Z, hx, hb, hml, hown, hK, hI, hR, hof, hfin, rfl⟩ := hG
  subst hq
  intro h1 h2 H locs L hL hW hS
  have hry : R3 0 := by decide
  refine lv_if_ne hx hb hd ht (fun cc => kt ?_ h1 h2 H locs L hL hW hS) (fun cc => kf ?_ h1 h2 H locs L hL hW hS)
  · have e := i3_eq hrx hry
    rw [i3_zero] at e
    exact fun z => cc (e.mpr z)
  · have e := i3_eq hrx hry
    rw [i3_zero] at e
    exact e.mp cc
theorem gx_icmp_lt (hG : Cx own b mL rt isI d a n0 Q G) {x y o : Int} (hd : decode b pc = .ok (.if_icmp .lt o, 3)) (ht : (pc : Int) + o = (tgt : Int)) (hq : pc + 3 = q) (hrx : R3 x) (hry : R3 y) (kt : x < y → G tgt ls st n h) (kf : y ≤ x → G q ls st n h) : G pc ls (Vi y :: Vi x :: st) n h := by
  obtain ⟨p, l, e, R, s, m, args, below, meth, c, D, K, bb, off, Z, hx, hb, hml, hown, hK, hI, hR, hof, hfin, rfl⟩ := hG
  subst hq
  intro h1 h2 H locs L hL hW hS
  refine lv_icmp_lt hx hb hd ht (fun cc => kt ?_ h1 h2 H locs L hL hW hS) (fun cc => kf ?_ h1 h2 H locs L hL hW hS)
  · have e := i3_lt hrx hry
    exact e.mp cc
  · have e := i3_lt hrx hry
    have c2 : ¬ (x < y) := fun z => cc (e.mpr z)
    omega
theorem gx_if_lt (hG : Cx own b mL rt isI d a n0 Q G) {x o : Int} (hd : decode b pc = .ok (.ifCond .lt o, 3)) (ht : (pc : Int) + o = (tgt : Int)) (hq : pc + 3 = q) (hrx : R3 x) (kt : x < 0 → G tgt ls st n h) (kf : 0 ≤ x → G q ls st n h) : G pc ls (Vi x :: st) n h := by
  obtain ⟨p, l, e, R, s, m, args, below, meth, c, D, K, bb, off, Z, hx, hb, hml, hown, hK, hI, hR, hof, hfin, rfl⟩ := hG
  subst hq
  intro h1 h2 H locs L hL hW hS
  have hry : R3 0 := by decide
  refine lv_if_lt hx hb hd ht (fun cc => kt ?_ h1 h2 H locs L hL hW hS) (fun cc => kf ?_ h1 h2 H locs L hL hW hS)
  · have e := i3_lt hrx hry
    rw [i3_zero] at e
    exact e.mp cc
  · have e := i3_lt hrx hry
    rw [i3_zero] at e
    have c2 : ¬ (x < 0) := fun z => cc (e.mpr z)
    omega
theorem gx_icmp_ge (hG : Cx own b mL rt isI d a n0 Q G) {x y o : Int} (hd : decode b pc = .ok (.if_icmp .ge o, 3)) (ht : (pc : Int) + o = (tgt : Int)) (hq : pc + 3 = q) (hrx : R3 x) (hry : R3 y) (kt : y ≤ x → G tgt ls st n h) (kf : x < y → G q ls st n h) : G pc ls (Vi y :: Vi x :: st) n h := by
  obtain ⟨p, l, e, R, s, m, args, below, meth, c, D, K, bb, off, Z, hx, hb, hml, hown, hK, hI, hR, hof, hfin, rfl⟩ := hG
  subst hq
  intro h1 h2 H locs L hL hW hS
  refine lv_icmp_ge hx hb hd ht (fun cc => kt ?_ h1 h2 H locs L hL hW hS) (fun cc => kf ?_ h1 h2 H locs L hL hW hS)
  · have e := i3_le hry hrx
    exact e.mp cc
  · have e := i3_le hry hrx
    have c2 : ¬ (y ≤ x) := fun z => cc (e.mpr z)
    omega
theorem gx_if_ge (hG : Cx own b mL rt isI d a n0 Q G) {x o : Int} (hd : decode b pc = .ok (.ifCond .ge o, 3)) (ht : (pc : Int) + o = (tgt : Int)) (hq : pc + 3 = q) (hrx : R3 x) (kt : 0 ≤ x → G tgt ls st n h) (kf : x < 0 → G q ls st n h) : G pc ls (Vi x :: st) n h := by
  obtain ⟨p, l, e, R, s, m, args, below, meth, c, D, K, bb, off, Z, hx, hb, hml, hown, hK, hI, hR, hof, hfin, rfl⟩ := hG
  subst hq
  intro h1 h2 H locs L hL hW hS
  have hry : R3 0 := by decide
  refine lv_if_ge hx hb hd ht (fun cc => kt ?_ h1 h2 H locs L hL hW hS) (fun cc => kf ?_ h1 h2 H locs L hL hW hS)
  · have e := i3_le hry hrx
    rw [i3_zero] at e
    exact e.mp cc
  · have e := i3_le hry hrx
    rw [i3_zero] at e
    have c2 : ¬ (0 ≤ x) := fun z => cc (e.mpr z)
    omega
theorem gx_icmp_gt (hG : Cx own b mL rt isI d a n0 Q G) {x y o : Int} (hd : decode b pc = .ok (.if_icmp .gt o, 3)) (ht : (pc : Int) + o = (tgt : Int)) (hq : pc + 3 = q) (hrx : R3 x) (hry : R3 y) (kt : y < x → G tgt ls st n h) (kf : x ≤ y → G q ls st n h) : G pc ls (Vi y :: Vi x :: st) n h := by
  obtain ⟨p, l, e, R, s, m, args, below, meth, c, D, K, bb, off, Z, hx, hb, hml, hown, hK, hI, hR, hof, hfin, rfl⟩ := hG
  subst hq
  intro h1 h2 H locs L hL hW hS
  refine lv_icmp_gt hx hb hd ht (fun cc => kt ?_ h1 h2 H locs L hL hW hS) (fun cc => kf ?_ h1 h2 H locs L hL hW hS)
  · have e := i3_lt hry hrx
    exact e.mp cc
  · have e := i3_lt hry hrx
    have c2 : ¬ (y < x) := fun z => cc (e.mpr z)
    omega
theorem gx_if_gt (hG : Cx own b mL rt isI d a n0 Q G) {x o : Int} (hd : decode b pc = .ok (.ifCond .gt o, 3)) (ht : (pc : Int) + o = (tgt : Int)) (hq : pc + 3 = q) (hrx : R3 x) (kt : 0 < x → G tgt ls st n h) (kf : x ≤ 0 → G q ls st n h) : G pc ls (Vi x :: st) n h := by
  obtain ⟨p, l, e, R, s, m, args, below, meth, c, D, K, bb, off, Z, hx, hb, hml, hown, hK, hI, hR, hof, hfin, rfl⟩ := hG
  subst hq
  intro h1 h2 H locs L hL hW hS
  have hry : R3 0 := by decide
  refine lv_if_gt hx hb hd ht (fun cc => kt ?_ h1 h2 H locs L hL hW hS) (fun cc => kf ?_ h1 h2 H locs L hL hW hS)
  · have e := i3_lt hry hrx
    rw [i3_zero] at e
    exact e.mp cc
  · have e := i3_lt hry hrx
    rw [i3_zero] at e
    have c2 : ¬ (0 < x) := fun z => cc (e.mpr z)
    omega
theorem gx_icmp_le (hG : Cx own b mL rt isI d a n0 Q G) {x y o : Int} (hd : decode b pc = .ok (.if_icmp .le o, 3)) (ht : (pc : Int) + o = (tgt : Int)) (hq : pc + 3 = q) (hrx : R3 x) (hry : R3 y) (kt : x ≤ y → G tgt ls st n h) (kf : y < x → G q ls st n h) : G pc ls (Vi y :: Vi x :: st) n h := by
  obtain ⟨p, l, e, R, s, m, args, below, meth, c, D, K, bb, off, Z, hx, hb, hml, hown, hK, hI, hR, hof, hfin, rfl⟩ := hG
  subst hq
  intro h1 h2 H locs L hL hW hS
  refine lv_icmp_le hx hb hd ht (fun cc => kt ?_ h1 h2 H locs L hL hW hS) (fun cc => kf ?_ h1 h2 H locs L hL hW hS)
  · have e := i3_le hrx hry
    exact e.mp cc
  · have e := i3_le hrx hry
    have c2 : ¬ (x ≤ y) := fun z => cc (e.mpr z)
    omega
theorem gx_if_le (hG : Cx own b mL rt isI d a n0 Q G) {x o : Int} (hd : decode b pc = .ok (.ifCond .le o, 3)) (ht : (pc : Int) + o = (tgt : Int)) (hq : pc + 3 = q) (hrx : R3 x) (kt : x ≤ 0 → G tgt ls st n h) (kf : 0 < x → G q ls st n h) : G pc ls (Vi x :: st) n h := by
  obtain ⟨p, l, e, R, s, m, args, below, meth, c, D, K, bb, off, Z, hx, hb, hml, hown, hK, hI, hR, hof, hfin, rfl⟩ := hG
  subst hq
  intro h1 h2 H locs L hL hW hS
  have hry : R3 0 := by decide
  refine lv_if_le hx hb hd ht (fun cc => kt ?_ h1 h2 H locs L hL hW hS) (fun cc => kf ?_ h1 h2 H locs L hL hW hS)
  · have e := i3_le hrx hry
    rw [i3_zero] at e
    exact e.mp cc
  · have e := i3_le hrx hry
    rw [i3_zero] at e
    have c2 : ¬ (x ≤ 0) := fun z => cc (e.mpr z)
    omega
theorem gx_goto (hG : Cx own b mL rt isI d a n0 Q G) {o : Int} (hd : decode b pc = .ok (.goto o, 3)) (ht : (pc : Int) + o = (tgt : Int)) (k : G tgt ls st n h) : G pc ls st n h := by
  obtain ⟨p, l, e, R, s, m, args, below, meth, c, D, K, bb, off, Z, hx, hb, hml, hown, hK, hI, hR, hof, hfin, rfl⟩ := hG
  intro h1 h2 H locs L hL hW hS
  exact lv_goto hx hb hd ht (k h1 h2 H locs L hL hW hS)
theorem gx_tsw (hG : Cx own b mL rt isI d a n0 Q G) {x lo hi df : Int} {offs : Array Int} {len : Nat} (hd : decode b pc = .ok (.tableswitch df lo hi offs, len)) (hrx : R3 x) (hsz : (offs.size : Int) = hi - lo + 1) (ht : (pc : Int) + df = (tgt : Int)) (kd : x < lo ∨ hi < x → G tgt ls st n h)
    (kk : ∀ (i : Nat) (o : Int), offs[i]? = some o → x = lo + i → ∃ t : Nat, (pc : Int) + o = (t : Int) ∧ G t ls st n h) : G pc ls (Vi x :: st) n h := by
  obtain ⟨p, l, e, R, s, m, args, below, meth, c, D, K, bb, off, Z, hx, hb, hml, hown, hK, hI, hR, hof, hfin, rfl⟩ := hG
  intro h1 h2 H locs L hL hW hS
  by_cases hc : x < lo ∨ hi < x
  · exact lv_tableOut hx hb hd (by rw [i3_toInt hrx]; exact hc) ht (kd hc h1 h2 H locs L hL hW hS)
  · have hl : (x - lo).toNat < offs.size := by omega
    obtain ⟨t, ht2, kt⟩ := kk (x - lo).toNat offs[(x - lo).toNat] (Array.getElem?_eq_getElem hl) (by omega)
    exact lv_tableIn hx hb hd (by rw [i3_toInt hrx]; omega) (by rw [i3_toInt hrx]; omega) (by rw [i3_toInt hrx]; exact Array.getElem?_eq_getElem hl) ht2 (kt h1 h2 H locs L hL hW hS)
theorem gx_ireturn (hG : Cx own b mL rt isI d a n0 Q G) {z : Int} (hd : decode b pc = .ok (.ireturn, 1)) (hrt : rt = some .int) (hn : n = n0 + a) (hQ : Q (some (Vi z)) h) : G pc ls [Vi z] n h := by
  obtain ⟨p, l, e, R, s, m, args, below, meth, c, D, K, bb, off, Z, hx, hb, hml, hown, hK, hI, hR, hof, hfin, rfl⟩ := hG
  intro h1 h2 H locs L hL hW hS
  have e1 : n - n0 = a := by omega
  rw [e1]
  exact hfin .ireturn (some (Vi z)) pc L h H locs (Or.inl ⟨hrt, rfl, z, rfl⟩) hd hQ (hn ▸ hW) hS
theorem gx_zreturn (hG : Cx own b mL rt isI d a n0 Q G) {z : Int} (hd : decode b pc = .ok (.ireturn, 1)) (hrt : rt = some .boolean) (hn : n = n0 + a) (hz : z = 0 ∨ z = 1) (hQ : Q (some (Vi z)) h) : G pc ls [Vi z] n h := by
  obtain ⟨p, l, e, R, s, m, args, below, meth, c, D, K, bb, off, Z, hx, hb, hml, hown, hK, hI, hR, hof, hfin, rfl⟩ := hG
  intro h1 h2 H locs L hL hW hS
  have e1 : n - n0 = a := by omega
  rw [e1]
  exact hfin .ireturn (some (Vi z)) pc L h H locs (Or.inr (Or.inl ⟨hrt, rfl, z, hz, rfl⟩)) hd hQ (hn ▸ hW) hS
theorem gx_lreturn (hG : Cx own b mL rt isI d a n0 Q G) {z : Int} (hd : decode b pc = .ok (.lreturn, 1)) (hrt : rt = some .long) (hn : n = n0 + a) (hQ : Q (some (Vj z)) h) : G pc ls [Vj z] n h := by
  obtain ⟨p, l, e, R, s, m, args, below, meth, c, D, K, bb, off, Z, hx, hb, hml, hown, hK, hI, hR, hof, hfin, rfl⟩ := hG
  intro h1 h2 H locs L hL hW hS
  have e1 : n - n0 = a := by omega
  rw [e1]
  exact hfin .lreturn (some (Vj z)) pc L h H locs (Or.inr (Or.inr (Or.inl ⟨hrt, rfl, z, rfl⟩))) hd hQ (hn ▸ hW) hS
theorem gx_return (hG : Cx own b mL rt isI d a n0 Q G) (hd : decode b pc = .ok (.return_, 1)) (hrt : rt = none) (hn : n = n0 + a) (hQ : Q (none) h) : G pc ls [] n h := by
  obtain ⟨p, l, e, R, s, m, args, below, meth, c, D, K, bb, off, Z, hx, hb, hml, hown, hK, hI, hR, hof, hfin, rfl⟩ := hG
  intro h1 h2 H locs L hL hW hS
  have e1 : n - n0 = a := by omega
  rw [e1]
  exact hfin .return_ (none) pc L h H locs (Or.inr (Or.inr (Or.inr (Or.inl ⟨hrt, rfl, rfl⟩)))) hd hQ (hn ▸ hW) hS
theorem gx_areturn (hG : Cx own b mL rt isI d a n0 Q G) {z : Int} (hd : decode b pc = .ok (.areturn, 1)) (hrt : ∃ C, rt = some (.object C)) (hn : n = n0 + a) (hQ : Q (some (Vr z)) h) : G pc ls [Vr z] n h := by
  obtain ⟨p, l, e, R, s, m, args, below, meth, c, D, K, bb, off, Z, hx, hb, hml, hown, hK, hI, hR, hof, hfin, rfl⟩ := hG
  intro h1 h2 H locs L hL hW hS
  have e1 : n - n0 = a := by omega
  rw [e1]
  exact hfin .areturn (some (Vr z)) pc L h H locs (Or.inr (Or.inr (Or.inr (Or.inr ⟨hrt, rfl, z, rfl⟩)))) hd hQ (hn ▸ hW) hS
end GX
