/-! part 07: new cells -/
theorem Wd.push {bb off : Nat} {D : va_G} {K : Nat → ClassId} {n : Nat} {h : AH} {H H1 : Heap} {c1 : AE} (hW : Wd bb off D K n h H) (hz : H1.size = H.size + 1) (he : va_at D clsL (n + off, cnv bb off K (some c1)) H1) (oq : ∀ q : Nat, q < H.size → H1[q]? = H[q]?) : Wd bb off D K (n + 1) (hset h (n : Int) (some c1)) H1 := by
  refine ⟨by rw [hz, hW.1]; omega, ?_, hW.2.2.push⟩
  rw [← wld_push]
  refine (hW.2.1.kept (fun k q hk => oq q.1 (hW.2.1 k q hk).lt)).app (fun k q hk => ?_)
  have hl : k < 1 := (List.getElem?_eq_some_iff.mp hk).1
  rw [show k = 0 by omega] at hk
  cases hk
  exact he
theorem va_S.push {A : Nat → Prop} {H0 H H1 : Heap} {locs : List Loc} (h : va_S A H0 H locs) (z : H1.size = H.size + 1) (oq : ∀ q : Nat, q < H.size → H1[q]? = H[q]?) : va_S A H0 H1 locs :=
  ⟨by rw [z]; have := h.1; omega, fun q h1 h2 => (oq q (Nat.lt_of_lt_of_le h1 h.1)).trans (h.2.1 q h1 h2), h.2.2⟩
def Cls (own : String) (idx ci : Nat) (fs : List Value) : Prop :=
  ∃ (C : String) (T : u_T) (N : Nat) (tys : Nat → FieldType), clsL[ci]? = some (C, T, N) ∧ N ≤ 16500 ∧ (∀ w ∈ u_ws C T N, w ∈ lw_tbl) ∧ (∀ j, j < N → parseFieldDescriptor (T j).2.2.1 = some (tys j)) ∧ (∀ j, j < N → ∀ bb off : Nat, defaultValue (tys j) = vp_V (fs.map (rl bb off)) j) ∧ Cond.classLink own idx C ∈ lw_tbl ∧ Cond.instantiable C N ∈ lw_tbl ∧ Cond.initialized C ∈ lw_tbl
section GN
variable {own : String} {b : ByteArray} {mL : Nat} {rt : Option FieldType} {isI : Bool} {d a n0 : Nat} {Q : Option Value → AH → Prop} {G : Nat → List (Option Value) → List Value → Nat → AH → Prop}
variable {pc q tgt : Nat} {st : List Value} {ls : List (Option Value)} {n : Nat} {h : AH}
theorem gx_new (hG : Cx own b mL rt isI d a n0 Q G) {idx ci : Nat} {fs : List Value} (hC : Cls own idx ci fs) (hn : n + 1 ≤ n0 + a) (hd : decode b pc = .ok (.new idx, 3)) (hq : pc + 3 = q) (k : G q ls (Vr n :: st) (n + 1) (hset h n (cO ci fs))) : G pc ls st n h := by
  obtain ⟨p, l, e, R, s, m, args, below, meth, c, D, K, bb, off, Z, hx, hb, hml, hown, hK, hI, hR, hof, hfin, rfl⟩ := hG
  subst hq
  intro h1 h2 H locs L hL hW hS
  obtain ⟨C, T, N, tys, f1, f2, f3, f4, f5, f6, f7, f8⟩ := hC
  have hKn := hK.1.1 ci _ f1
  refine W.newcK hx hb hown (hK.2.2 _ _ (gtb_in f6 rfl)) (hK.2.2 _ _ (gtb_in f7 rfl)) (hK.2.2 _ _ (gtb_in f8 rfl)) rfl hd (by omega) (by omega) hKn.2.1 hW.1 fun H1 kC hkC e1 z1 o1 => ?_
  have o2 : ∀ q : Nat, q < H.size → H1[q]? = H[q]? := fun q hq => o1 q (by rw [hW.1] at hq; exact hq)
  have key := k (by omega) (by omega) H1 locs L hL (hW.push (c1 := .inr (ci, fs)) (by rw [z1, hW.1]) ⟨_, f1, (u_born tys (fun w hw => hK.2.2 #[] w hw) (gtb_us f3) hKn hkC e1 f4).to (fun j hj => f5 j hj bb off)⟩ o2) (hS.push (by rw [z1, hW.1]) o2)
  rw [List.map_cons, rl_r (by omega)] at key
  refine W.widen (k := n + 1 - n0) (n := 16500 * (n + 1 - n0)) (by omega) (by omega) ?_
  exact key
theorem arr_new {c : ClassId} {off t N : Nat} (ht : t < 4) : vp_cell c (N, cnt off t (fun _ => 0)) = { cls := c, slots := Array.replicate N (defaultValue (tyC t)), vm := .none } := by
  rw [arrV_new]
  rcases (show t = 0 ∨ t = 1 ∨ t = 2 ∨ t = 3 by omega) with rfl | rfl | rfl | rfl <;> rfl
theorem gx_newa (hG : Cx own b mL rt isI d a n0 Q G) {atype : ArrayType} {t N : Nat} (ht : t < 4) (hty : newarray.typeOf atype = tyC t) (hw : Cond.arrayClass (tyC t) ∈ lw_tbl) (hN : N ≤ 16500) (hn : n + 1 ≤ n0 + a) (hd : decode b pc = .ok (.newarray atype, 2)) (hq : pc + 2 = q) (k : G q ls (Vr n :: st) (n + 1) (hset h n (cA t N (fun _ => 0)))) : G pc ls (Vi (N : Int) :: st) n h := by
  obtain ⟨p, l, e, R, s, m, args, below, meth, c, D, K, bb, off, Z, hx, hb, hml, hown, hK, hI, hR, hof, hfin, rfl⟩ := hG
  subst hq
  intro h1 h2 H locs L hL hW hS
  have hcl := i3_clamp (i := (N : Int)) (by omega) (by omega)
  have hcl2 : (Int32.ofInt (N : Int)).toNatClampNeg = N := by omega
  have hneg : ¬ Int32.ofInt (N : Int) < 0 := by
    rw [← i3_zero, i3_lt ⟨by omega, by omega⟩ ⟨by omega, by omega⟩]
    omega
  have hcb : componentBytes (tyC t) ≤ 8 := by rcases (show t = 0 ∨ t = 1 ∨ t = 2 ∨ t = 3 by omega) with rfl | rfl | rfl | rfl <;> decide
  have hmul : N * componentBytes (tyC t) ≤ 16500 * 8 := Nat.mul_le_mul hN hcb
  rw [List.map_cons]
  refine W.newa (n := Int32.ofInt (N : Int)) hx hb (by rw [hty]; exact hK.2.2 _ _ (gtb_in hw rfl)) rfl hd rfl hneg (by rw [hty, hcl2]; omega) (by omega) (by rw [hcl2]; omega) fun cA kA comp g1 g2 g3 => ?_
  rw [hty] at g1 ⊢
  rw [hcl2]
  have hRA := (hK.1.2 t _ (tysL_get (K := K) (by omega))).2
  have hcA : cA = K t := by
    rcases (show t = 0 ∨ t = 1 ∨ t = 2 ∨ t = 3 by omega) with rfl | rfl | rfl | rfl <;> exact Option.some.inj (g1.symm.trans hRA)
  subst hcA
  have o2 : ∀ q : Nat, q < H.size → (H.push { cls := K t, slots := Array.replicate N (defaultValue (tyC t)), vm := .none })[q]? = H[q]? := fun q hq => by
    rw [Array.getElem?_push, if_neg (Nat.ne_of_lt hq)]
  have key := k (by omega) (by omega) _ locs L hL (hW.push (c1 := .inl (t, N, fun _ => 0)) (H1 := H.push { cls := K t, slots := Array.replicate N (defaultValue (tyC t)), vm := .none }) (by simp) (by
    show (H.push _)[n + off]? = some (vp_cell (K t) (N, cnt off t (fun _ => 0)))
    rw [arr_new ht, ← hW.1]
    simp) o2) (hS.push (by simp) o2)
  rw [List.map_cons, rl_r (by omega)] at key
  refine W.widen (k := n + 1 - n0) (n := 16500 * (n + 1 - n0)) (by omega) (by omega) ?_
  rw [hW.1]
  exact key
theorem arr_newR {c : ClassId} {off t N : Nat} (ht : 4 ≤ t) : vp_cell c (N, cnt off t (fun _ => -1)) = { cls := c, slots := Array.replicate N .null, vm := .none } := by
  rw [arrV_new]
  unfold cnt
  rw [if_neg (by omega), if_neg (by omega)]
  rfl
theorem gx_anew (hG : Cx own b mL rt isI d a n0 Q G) {C : String} {idx t N : Nat} (ht : 4 ≤ t ∧ t < 8) (hty : tyC t = .object C) (hl : Cond.classLink own idx C ∈ lw_tbl) (hw : Cond.arrayOver (.object C) ∈ lw_tbl) (hN : N ≤ 16500) (hn : n + 1 ≤ n0 + a) (hd : decode b pc = .ok (.anewarray idx, 3)) (hq : pc + 3 = q) (k : G q ls (Vr n :: st) (n + 1) (hset h n (cA t N (fun _ => -1)))) : G pc ls (Vi (N : Int) :: st) n h := by
  obtain ⟨p, l, e, R, s, m, args, below, meth, c, D, K, bb, off, Z, hx, hb, hml, hown, hK, hI, hR, hof, hfin, rfl⟩ := hG
  subst hq
  intro h1 h2 H locs L hL hW hS
  have hcl := i3_clamp (i := (N : Int)) (by omega) (by omega)
  have hcl2 : (Int32.ofInt (N : Int)).toNatClampNeg = N := by omega
  have hneg : ¬ Int32.ofInt (N : Int) < 0 := by
    rw [← i3_zero, i3_lt ⟨by omega, by omega⟩ ⟨by omega, by omega⟩]
    omega
  rw [List.map_cons]
  refine W.anew (n := Int32.ofInt (N : Int)) hx hb hown (hK.2.2 _ _ (gtb_in hl rfl)) (hK.2.2 _ _ (gtb_in hw rfl)) rfl hd rfl hneg (by rw [hcl2]; omega) (by omega) (by rw [hcl2]; omega) fun cA kA comp g1 g2 g3 g4 => ?_
  rw [hcl2]
  have hRA := (hK.1.2 t _ (tysL_get (K := K) (by omega))).2
  rw [hty] at hRA
  obtain ⟨kA', comp', -, -, -, r4⟩ := hRA
  have hcA : cA = K t := Option.some.inj (g1.symm.trans r4)
  subst hcA
  have o2 : ∀ q : Nat, q < H.size → (H.push { cls := K t, slots := Array.replicate N .null, vm := .none })[q]? = H[q]? := fun q hq => by
    rw [Array.getElem?_push, if_neg (Nat.ne_of_lt hq)]
  have key := k (by omega) (by omega) _ locs L hL (hW.push (c1 := .inl (t, N, fun _ => -1)) (H1 := H.push { cls := K t, slots := Array.replicate N .null, vm := .none }) (by simp) (by
    show (H.push _)[n + off]? = some (vp_cell (K t) (N, cnt off t (fun _ => -1)))
    rw [arr_newR ht.1, ← hW.1]
    simp) o2) (hS.push (by simp) o2)
  rw [List.map_cons, rl_r (by omega)] at key
  refine W.widen (k := n + 1 - n0) (n := 16500 * (n + 1 - n0)) (by omega) (by omega) ?_
  rw [hW.1]
  exact key
theorem gx_aast (hG : Cx own b mL rt isI d a n0 Q G) {x i v : Int} {t N ci : Nat} {F : Int → Int} {fs : List Value} {C E : String} (hc : h x = cA t N F) (ht : 4 ≤ t ∧ t < 8) (hty : tyC t = .object E) (hv : h v = cO ci fs) (hci : (clsL[ci]?).map (fun r => r.1) = some C) (hca : C = E ∨ Cond.castable C E ∈ lw_tbl) (hi0 : 0 ≤ i) (hi1 : i < N) (hN : N ≤ 2147483647) (hd : decode b pc = .ok (.aastore, 1)) (hq : pc + 1 = q) (k : G q ls st n (hset h x (cA t N (up F i v)))) : G pc ls (Vr v :: Vi i :: Vr x :: st) n h := by
  obtain ⟨p, l, e, R, s, m, args, below, meth, c, D, K, bb, off, Z, hx, hb, hml, hown, hK, hI, hR, hof, hfin, rfl⟩ := hG
  subst hq
  intro h1 h2 H locs L hL hW hS
  obtain ⟨h0, -, -⟩ := hW.at hc
  obtain ⟨v0, hev, -⟩ := hW.at hv
  obtain ⟨r, hr, rfl⟩ := Option.map_eq_some_iff.mp hci
  simp only [List.map_cons, rl_r h0, rl_r v0]
  have hcell := arr_at hW hc
  have hcn : ∀ F9 : Int → Int, vp_cell (K t) (N, cnt off t F9) = arrV (K t) N (fun j : Nat => if F9 j < 0 then .null else .ref ((F9 j).toNat + off)) := fun F9 => by
    unfold cnt
    rw [if_neg (by omega), if_neg (by omega), vp_cell_q]
    congr 1
    funext j
    split <;> rfl
  rw [hcn] at hcell
  have ei := i3_clamp hi0 (by omega)
  have hRA := (hK.1.2 t _ (tysL_get (K := K) (by omega))).2
  rw [hty] at hRA
  obtain ⟨kA, comp, k1, k2, k3, -⟩ := hRA
  obtain ⟨r', hr', cellV, w1, w2, w3, -⟩ := hW.2.1 _ _ hev
  obtain ⟨hcls1, kC, hkC, hkind⟩ := (hK.1.1 ci _ hr).2
  have hasg : s.vm.assignable (D.1 ci) comp = true := by
    rcases hca with z | z
    · have e9 : comp = D.1 ci := Option.some.inj (k3.symm.trans (z ▸ hcls1))
      rw [e9]
      exact va_assign ⟨hcls1, kC, hkC, hkind⟩
    · exact vb_asgC (hK.2.2 _ _ (gtb_in z rfl)) comp (D.1 ci) k3 hcls1
  obtain ⟨kq, hkq, -⟩ := Vm.findClass_spec k3
  refine W.aast hx hb hcell (fun q h => by cases h) (fun h => by cases h) k1 k2 rfl hkq ⟨?_, ?_⟩ w1 (fun q h => by rw [w3] at h; cases h) (by rw [w2]; exact hkC) (by rw [w2]; exact hasg) rfl rfl hd fun H1 e1 z1 oq => ?_
  · rw [← i3_zero, i3_lt ⟨by omega, by omega⟩ ⟨by omega, by omega⟩]
    omega
  · rw [arrV_size]
    omega
  · have hA : off ≤ x.toNat + off := by omega
    refine k h1 h2 H1 _ L hL (hW.write hc z1 ?_ oq) (hS.put z1 oq hA)
    show H1[x.toNat + off]? = some (vp_cell (K t) (N, cnt off t (up F i v)))
    rw [e1, hcn]
    have e2 := arr_up (c := K t) (N := N) (F := F) (i := i) (z := v) (g := fun w => if w < 0 then .null else .ref (w.toNat + off)) ei
    rw [if_neg (by omega)] at e2
    exact congrArg some e2
theorem gx_objinit (hG : Cx own b mL rt isI d a n0 Q G) {x : Int} {idx : Nat} (hl : Cond.methodLink own idx objectInit ∈ lw_tbl) (hx0 : 0 ≤ x) (hw : Cond.instanceMethod objectInit ∈ lw_tbl ∧ Cond.code objectInit ⟨#[0xb1]⟩ 1 none ∈ lw_tbl) (hd0 : 1 ≤ d) (hst : (st.map fun v => v.category).sum ≤ 8) (hd : decode b pc = .ok (.invokespecial idx, 3)) (hq : pc + 3 = q) (k : G q ls st n h) : G pc ls (Vr x :: st) n h := by
  obtain ⟨p, l, e, R, s, m, args, below, meth, c, D, K, bb, off, Z, hx, hb, hml, hown, hK, hI, hR, hof, hfin, rfl⟩ := hG
  subst hq
  intro h1 h2 H locs L hL hW hS
  have hcat := st_cat (bb := bb) (off := off) hst
  rw [List.map_cons, rl_r hx0]
  refine W.objInit hx hb hown (hK.2.2 _ _ (gtb_in hl rfl)) (hK.2.2 _ _ (gtb_in hw.1 rfl)) (hK.2.2 _ _ (gtb_in hw.2 rfl)) rfl (by rw [hml]; exact hL.1.1) rfl hd (by omega) (by show 2 * 0 + _ + 12 ≤ _; omega) ?_
  exact k h1 h2 H locs L hL hW hS
end GN
