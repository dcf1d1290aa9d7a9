/-! part 05: fields, arrays, calls, new cells, over the layer of part 03 -/
theorem Wd.at {bb off : Nat} {D : va_G} {K : Nat → ClassId} {n : Nat} {h : AH} {H : Heap} {x : Int} {c : AE} (hW : Wd bb off D K n h H) (hc : h x = some c) : 0 ≤ x ∧ (wld bb off K n h)[x.toNat]? = some (x.toNat + off, cnv bb off K (some c)) ∧ ∃ k : Nat, k < n ∧ x = k := by
  obtain ⟨h0, h1⟩ := hW.2.2.lt hc
  obtain ⟨k, rfl⟩ := Int.eq_ofNat_of_zero_le h0
  have hk : k < n := by omega
  refine ⟨h0, ?_, k, hk, rfl⟩
  rw [show ((k : Int)).toNat = k from rfl, wld_get hk, hc]
theorem Wd.put {bb off : Nat} {D : va_G} {K : Nat → ClassId} {n : Nat} {h : AH} {H H1 : Heap} {x : Int} {c c1 : AE} (hW : Wd bb off D K n h H) (hc : h x = some c) (hz : H1.size = H.size) (hP : va_P D clsL ((wld bb off K n h).set x.toNat (x.toNat + off, cnv bb off K (some c1))) H1) : Wd bb off D K n (hset h x (some c1)) H1 := by
  obtain ⟨h0, -, k, hk, rfl⟩ := hW.at hc
  rw [show ((k : Int)).toNat = k from rfl, wld_set hk rfl] at hP
  exact ⟨hz.trans hW.1, hP, hW.2.2.set hc⟩
/-- the heap's size from the frame -/
theorem va_S.le {A : Nat → Prop} {H0 H : Heap} {locs : List Loc} (h : va_S A H0 H locs) : H0.size ≤ H.size := h.1
def Fld (own : String) (idx ci k : Nat) (ty : FieldType) (fin wr : Bool) : Prop :=
  ∃ (C : String) (T : u_T) (N : Nat) (tys : Nat → FieldType), clsL[ci]? = some (C, T, N) ∧ k < N ∧ (∀ w ∈ u_ws C T N, w ∈ lw_tbl) ∧ (∀ j, j < N → parseFieldDescriptor (T j).2.2.1 = some (tys j)) ∧ (∀ a, a < N → ∀ b, b < N → a ≠ b → (T a).2.1 ≠ (T b).2.1) ∧ tys k = ty ∧ (T k).2.2.2 = fin ∧ (wr = true → fin = true → (T k).1 = own) ∧ Cond.fieldLink own idx (T k).1 (T k).2.1 (T k).2.2.1 ∈ lw_tbl
theorem gtb_us {C : String} {T : u_T} {N : Nat} (h : ∀ w ∈ u_ws C T N, w ∈ lw_tbl) : ∀ w ∈ u_ws C T N, w ∈ gtb := fun w hw => gtb_in (h w hw) (by
  obtain ⟨k, -, rfl⟩ := List.mem_map.mp hw
  unfold u_lay
  split <;> rfl)
def vfit (ty : FieldType) (v : Value) : Prop := ∀ bb off : Nat, narrow ty (rl bb off v) = rl bb off v ∧ fits ty (rl bb off v) = true
theorem vfit_i {z : Int} : vfit .int (Vi z) := fun _ _ => ⟨rfl, rfl⟩
theorem vfit_l {z : Int} : vfit .long (Vj z) := fun _ _ => ⟨rfl, rfl⟩
theorem vfit_z0 : vfit .boolean (Vi 0) := fun _ _ => ⟨rfl, rfl⟩
theorem vfit_z1 : vfit .boolean (Vi 1) := fun _ _ => ⟨rfl, rfl⟩
theorem vfit_z {z : Int} (h : z = 0 ∨ z = 1) : vfit .boolean (Vi z) := by rcases h with rfl | rfl; exact vfit_z0; exact vfit_z1
theorem vfit_o {C : String} {a : Int} : vfit (.object C) (Vr a) := fun bb off => by obtain ⟨x, hx⟩ := rl_ref bb off a; rw [hx]; exact ⟨rfl, rfl⟩
theorem vfit_a {t : FieldType} {a : Int} : vfit (.array t) (Vr a) := fun bb off => by obtain ⟨x, hx⟩ := rl_ref bb off a; rw [hx]; exact ⟨rfl, rfl⟩
section GH
variable {own : String} {b : ByteArray} {mL : Nat} {rt : Option FieldType} {isI : Bool} {d a n0 : Nat} {Q : Option Value → AH → Prop} {G : Nat → List (Option Value) → List Value → Nat → AH → Prop}
variable {pc q tgt : Nat} {st : List Value} {ls : List (Option Value)} {n : Nat} {h : AH}
theorem gx_get (hG : Cx own b mL rt isI d a n0 Q G) {idx ci k : Nat} {ty : FieldType} {fin wr : Bool} (hF : Fld own idx ci k ty fin wr) {x : Int} {fs : List Value} {v : Value} (hc : h x = cO ci fs) (hv : fs[k]? = some v) (hd : decode b pc = .ok (.getfield idx, 3)) (hq : pc + 3 = q) (kk : G q ls (v :: st) n h) : G pc ls (Vr x :: st) n h := by
  obtain ⟨p, l, e, R, s, m, args, below, meth, c, D, K, bb, off, Z, hx, hb, hml, hown, hK, hI, hR, hof, hfin, rfl⟩ := hG
  subst hq
  intro h1 h2 H locs L hL hW hS
  obtain ⟨C, T, N, tys, f1, f2, f3, f4, f5, rfl, f7, f8, f9⟩ := hF
  obtain ⟨h0, he, -⟩ := hW.at hc
  rw [List.map_cons, rl_r h0]
  exact va_get (D := D) (v := rl bb off v) hx hb (fun w hw => hK.2.2 _ w hw) (gtb_us f3) hown hK.1 hW.2.1 x.toNat he f1 k f2 (hK.2.2 _ _ (gtb_in f9 rfl)) (fun _ h9 => h9) (by rw [List.getElem?_map, hv]; rfl) hd (kk h1 h2 H locs L hL hW hS)
/-- a cell is written -/
theorem Wd.write {bb off : Nat} {D : va_G} {K : Nat → ClassId} {n : Nat} {h : AH} {H H1 : Heap} {x : Int} {c c1 : AE} (hW : Wd bb off D K n h H) (hc : h x = some c) (hz : H1.size = H.size) (he : va_at D clsL (x.toNat + off, cnv bb off K (some c1)) H1) (oq : ∀ q : Nat, q ≠ x.toNat + off → H1[q]? = H[q]?) : Wd bb off D K n (hset h x (some c1)) H1 := by
  obtain ⟨-, h1, -⟩ := hW.at hc
  exact hW.put hc hz (hW.2.1.set wld_D h1 he oq)
theorem gx_put (hG : Cx own b mL rt isI d a n0 Q G) {idx ci k : Nat} {ty : FieldType} {fin : Bool} (hF : Fld own idx ci k ty fin true) {x : Int} {fs : List Value} {v : Value} (hc : h x = cO ci fs) (hk : k < fs.length) (hv : vfit ty v) (hfi : fin = false ∨ isI = true) (hd : decode b pc = .ok (.putfield idx, 3)) (hq : pc + 3 = q) (kk : G q ls st n (hset h x (cO ci (fs.set k v)))) : G pc ls (v :: Vr x :: st) n h := by
  obtain ⟨p, l, e, R, s, m, args, below, meth, c, D, K, bb, off, Z, hx, hb, hml, hown, hK, hI, hR, hof, hfin, rfl⟩ := hG
  subst hq
  intro h1 h2 H locs L hL hW hS
  obtain ⟨C, T, N, tys, f1, f2, f3, f4, f5, rfl, f7, f8, f9⟩ := hF
  obtain ⟨h0, he, -⟩ := hW.at hc
  rw [List.map_cons, List.map_cons, rl_r h0]
  have hts : ∀ w ∈ gtb, w.before args s = true := fun w hw => hK.2.2 _ w hw
  have hin := gtb_us f3
  have hap := va_apart (own := own) hts hin tys f4 f5 hK.1 f1
  obtain ⟨r, g1, cell, q1, q2, q3, q4⟩ := hW.2.1 _ _ he
  have hr : r = (C, T, N) := Option.some.inj (g1.symm.trans f1)
  subst hr
  obtain ⟨hSl, hfc, kC, hkC, hkind⟩ := hK.1.1 ci _ f1
  obtain ⟨cf, kf, fi, f, hi, hsl⟩ := hSl k f2
  have hlay := hts _ (hin _ (u_in_lay f2))
  have hst := (u_facts hfc hkC (u_lays hts hin f2) hi).1
  have hlen : k < (fs.map (rl bb off)).length := by simpa using hk
  have e0 : (fs.map (rl bb off)).set k (rl bb off v) = (fs.set k v).map (rl bb off) := (List.map_set).symm
  have after : ∀ H' : Heap, H'[x.toNat + off]? = some (cell.setSlot f.slot (rl bb off v)) → H'.size = H.size → (∀ q, q ≠ x.toNat + off → H'[q]? = H[q]?) → W p l e R s m args below meth c H' (locs ++ [⟨x.toNat + off, f.slot⟩]) (n - n0) (16500 * (n - n0)) Z (F0 m (pc + 3) L (st.map (rl bb off))) := by
    intro H' e1 e2 e3
    have hA : off ≤ x.toNat + off := by omega
    refine kk h1 h2 H' _ L hL (hW.write hc e2 ?_ e3) (hS.put e2 e3 hA)
    rw [hsl] at e1
    show va_at D clsL (x.toNat + off, .inr (ci, (fs.set k v).map (rl bb off))) H'
    rw [← e0]
    exact ⟨_, f1, t_OB.to (V := updV (vp_V (fs.map (rl bb off))) k (rl bb off v)) ⟨_, e1, q2, q3, t_set q4 hap f2 _⟩ (fun j _ => vp_updV_set hlen _ j)⟩
  unfold u_lay at hlay
  cases hfv : (T k).2.2.2 with
  | false =>
    rw [hfv, if_neg (by decide)] at hlay
    have h6 := u_store hfc hkC hkind hlay hi (f4 k f2) (hv bb off).1 (hv bb off).2
    exact W.putK hx hb (f := f) ⟨hown, hK.2.2 _ _ (gtb_in f9 rfl), ⟨_, _, _, hi⟩, hst⟩ (by rw [q2]; exact h6) q1 q3 (by rw [hsl]; exact k2_hasslot (q4 k f2)) rfl rfl hd after
  | true =>
    rw [if_pos hfv] at hlay
    have hfe : fin = true := by rw [← f7, hfv]
    have hin2 : meth.name = "<init>" := hI (by
      rcases hfi with z | z
      · rw [hfe] at z; cases z
      · exact z)
    have hcf : m.cls = cf := by
      obtain ⟨_, _, c', _, _, _, -, -, hf', -, -, -, hown2, -⟩ := Cond.laysFinal_spec hlay
      have e1 : c' = cf := by have := hi.symm.trans hf'; simp at this; exact this.1.symm
      rw [f8 rfl hfe] at hown2
      rw [← e1]; exact Option.some.inj (hown.symm.trans hown2)
    have h6 := u_fits hfc hkC hkind (Or.inr hlay) hi (f4 k f2) (hv bb off).1 (hv bb off).2
    exact W.putFinK hx hb hown (hK.2.2 _ _ (gtb_in f9 rfl)) hi hst hcf hin2 (by rw [q2]; exact h6) q1 q3 (by rw [hsl]; exact k2_hasslot (q4 k f2)) rfl rfl hd after
/-! arrays -/
theorem arr_at {bb off : Nat} {D : va_G} {K : Nat → ClassId} {n : Nat} {h : AH} {H : Heap} {x : Int} {t N : Nat} {F : Int → Int} (hW : Wd bb off D K n h H) (hc : h x = cA t N F) : H[x.toNat + off]? = some (vp_cell (K t) (N, cnt off t F)) := by
  obtain ⟨h0, he, -⟩ := hW.at hc
  exact hW.2.1 _ _ he
theorem arr0 {c : ClassId} {off N : Nat} {F : Int → Int} : vp_cell c (N, cnt off 0 F) = arrV c N (fun j : Nat => .int (Int32.ofInt (F j))) := rfl
theorem arr1 {c : ClassId} {off N : Nat} {F : Int → Int} : vp_cell c (N, cnt off 1 F) = arrV c N (fun j : Nat => .long (Int64.ofInt (F j))) := rfl
theorem arr2 {c : ClassId} {off N : Nat} {F : Int → Int} : vp_cell c (N, cnt off 2 F) = arrV c N (fun j : Nat => .int (Int32.ofInt (F j))) := rfl
theorem arr3 {c : ClassId} {off N : Nat} {F : Int → Int} : vp_cell c (N, cnt off 3 F) = arrV c N (fun j : Nat => .int (Int32.ofInt (F j))) := rfl
theorem arr_up {c : ClassId} {N k : Nat} {F : Int → Int} {i z : Int} {g : Int → Value} (hk : (k : Int) = i) : (arrV c N (fun j : Nat => g (F j))).setSlot k (g z) = arrV c N (fun j : Nat => g (up F i z j)) := by
  rw [arrV_store]
  congr 1
  funext j
  unfold updV up
  by_cases e : j = k
  · subst e
    rw [if_pos rfl, if_pos hk]
  · rw [if_neg e, if_neg (by omega)]
theorem gx_iald (hG : Cx own b mL rt isI d a n0 Q G) {x i : Int} {N : Nat} {F : Int → Int} (hc : h x = cA 0 N F) (hi0 : 0 ≤ i) (hi1 : i < N) (hN : N ≤ 2147483647) (hd : decode b pc = .ok (.iaload, 1)) (hq : pc + 1 = q) (kk : G q ls (Vi (F i) :: st) n h) : G pc ls (Vi i :: Vr x :: st) n h := by
  obtain ⟨p, l, e, R, s, m, args, below, meth, c, D, K, bb, off, Z, hx, hb, hml, hown, hK, hI, hR, hof, hfin, rfl⟩ := hG
  subst hq
  intro h1 h2 H locs L hL hW hS
  obtain ⟨h0, he, -⟩ := hW.at hc
  rw [List.map_cons, List.map_cons, rl_r h0]
  refine va_iald (cA := K 0) (n := N) (f := fun j : Nat => Int32.ofInt (F j)) hx hb hK.1 hW.2.1 x.toNat 0 he (tysL_get (by decide)) (i3_in hi0 hi1 hN) hd ?_
  have e1 := i3_clamp hi0 (by omega)
  simp only [e1]
  exact kk h1 h2 H locs L hL hW hS
theorem gx_lald (hG : Cx own b mL rt isI d a n0 Q G) {x i : Int} {N : Nat} {F : Int → Int} (hc : h x = cA 1 N F) (hi0 : 0 ≤ i) (hi1 : i < N) (hN : N ≤ 2147483647) (hd : decode b pc = .ok (.laload, 1)) (hq : pc + 1 = q) (kk : G q ls (Vj (F i) :: st) n h) : G pc ls (Vi i :: Vr x :: st) n h := by
  obtain ⟨p, l, e, R, s, m, args, below, meth, c, D, K, bb, off, Z, hx, hb, hml, hown, hK, hI, hR, hof, hfin, rfl⟩ := hG
  subst hq
  intro h1 h2 H locs L hL hW hS
  obtain ⟨h0, he, -⟩ := hW.at hc
  rw [List.map_cons, List.map_cons, rl_r h0]
  refine va_lald (cA := K 1) (n := N) (f := fun j : Nat => Int64.ofInt (F j)) hx hb hK.1 hW.2.1 x.toNat 1 he (tysL_get (by decide)) (i3_in hi0 hi1 hN) hd ?_
  have e1 := i3_clamp hi0 (by omega)
  simp only [e1]
  exact kk h1 h2 H locs L hL hW hS
theorem gx_bald (hG : Cx own b mL rt isI d a n0 Q G) {x i : Int} {N : Nat} {F : Int → Int} (hc : h x = cA 2 N F) (hi0 : 0 ≤ i) (hi1 : i < N) (hN : N ≤ 2147483647) (hd : decode b pc = .ok (.baload, 1)) (hq : pc + 1 = q) (kk : G q ls (Vi (F i) :: st) n h) : G pc ls (Vi i :: Vr x :: st) n h := by
  obtain ⟨p, l, e, R, s, m, args, below, meth, c, D, K, bb, off, Z, hx, hb, hml, hown, hK, hI, hR, hof, hfin, rfl⟩ := hG
  subst hq
  intro h1 h2 H locs L hL hW hS
  obtain ⟨h0, he, -⟩ := hW.at hc
  rw [List.map_cons, List.map_cons, rl_r h0]
  refine va_bald (cA := K 2) (n := N) (f := fun j : Nat => Int32.ofInt (F j)) hx hb hK.1 hW.2.1 x.toNat 2 he (tysL_get (by decide)) (i3_in hi0 hi1 hN) hd ?_
  have e1 := i3_clamp hi0 (by omega)
  simp only [e1]
  exact kk h1 h2 H locs L hL hW hS
theorem gx_zald (hG : Cx own b mL rt isI d a n0 Q G) {x i : Int} {N : Nat} {F : Int → Int} (hc : h x = cA 3 N F) (hi0 : 0 ≤ i) (hi1 : i < N) (hN : N ≤ 2147483647) (hd : decode b pc = .ok (.baload, 1)) (hq : pc + 1 = q) (kk : G q ls (Vi (F i) :: st) n h) : G pc ls (Vi i :: Vr x :: st) n h := by
  obtain ⟨p, l, e, R, s, m, args, below, meth, c, D, K, bb, off, Z, hx, hb, hml, hown, hK, hI, hR, hof, hfin, rfl⟩ := hG
  subst hq
  intro h1 h2 H locs L hL hW hS
  obtain ⟨h0, he, -⟩ := hW.at hc
  rw [List.map_cons, List.map_cons, rl_r h0]
  refine va_zald (cA := K 3) (n := N) (f := fun j : Nat => Int32.ofInt (F j)) hx hb hK.1 hW.2.1 x.toNat 3 he (tysL_get (by decide)) (i3_in hi0 hi1 hN) hd ?_
  have e1 := i3_clamp hi0 (by omega)
  simp only [e1]
  exact kk h1 h2 H locs L hL hW hS
theorem gx_aald (hG : Cx own b mL rt isI d a n0 Q G) {x i : Int} {t N : Nat} {F : Int → Int} (hc : h x = cA t N F) (ht : 4 ≤ t ∧ t < 8) (hi0 : 0 ≤ i) (hi1 : i < N) (hN : N ≤ 2147483647) (hv : 0 ≤ F i) (hd : decode b pc = .ok (.aaload, 1)) (hq : pc + 1 = q) (kk : G q ls (Vr (F i) :: st) n h) : G pc ls (Vi i :: Vr x :: st) n h := by
  obtain ⟨p, l, e, R, s, m, args, below, meth, c, D, K, bb, off, Z, hx, hb, hml, hown, hK, hI, hR, hof, hfin, rfl⟩ := hG
  subst hq
  intro h1 h2 H locs L hL hW hS
  obtain ⟨h0, he, -⟩ := hW.at hc
  rw [List.map_cons, List.map_cons, rl_r h0]
  have hcell := arr_at hW hc
  have hcn : cnt off t F = .inr (.inr (.inr (.inr (fun j : Nat => if F j < 0 then none else some ((F j).toNat + off))))) := by
    unfold cnt
    rw [if_neg (by omega), if_neg (by omega)]
  rw [hcn] at hcell
  have e1 := i3_clamp hi0 (by omega)
  have hlt : (Int32.ofInt i).toNatClampNeg < N := by omega
  refine W.aald (v := .ref ((F i).toNat + off)) (ty := tyC t) hx hb hcell ((hK.1.2 t _ (tysL_get ht.2)).1 N (fun j => va_rf _)) ?_ (fun q => by cases q) (by show ¬ (_ ∨ (arrV _ _ _).slots.size ≤ _); rw [arrV_size]; exact i3_in hi0 hi1 hN) ?_ rfl rfl hd ?_
  · rcases (show t = 4 ∨ t = 5 ∨ t = 6 ∨ t = 7 by omega) with rfl | rfl | rfl | rfl <;> rfl
  · show (arrV _ _ _).slots[_]? = _
    rw [arrV_read _ _ hlt]
    simp only [e1]
    rw [if_neg (by omega)]
    rfl
  · have key := kk h1 h2 H locs L hL hW hS
    rw [List.map_cons, rl_r hv] at key
    exact key
theorem gx_iast (hG : Cx own b mL rt isI d a n0 Q G) {x i z : Int} {N : Nat} {F : Int → Int} (hc : h x = cA 0 N F) (hi0 : 0 ≤ i) (hi1 : i < N) (hN : N ≤ 2147483647) (hd : decode b pc = .ok (.iastore, 1)) (hq : pc + 1 = q) (kk : G q ls st n (hset h x (cA 0 N (up F i z)))) : G pc ls (Vi z :: Vi i :: Vr x :: st) n h := by
  obtain ⟨p, l, e, R, s, m, args, below, meth, c, D, K, bb, off, Z, hx, hb, hml, hown, hK, hI, hR, hof, hfin, rfl⟩ := hG
  subst hq
  intro h1 h2 H locs L hL hW hS
  obtain ⟨h0, he, -⟩ := hW.at hc
  rw [List.map_cons, List.map_cons, List.map_cons, rl_r h0]
  refine W.iast hx hb (hW.2.1 _ _ he) ((hK.1.2 0 _ (tysL_get (by decide))).1 N (fun j => Value.int _)) (fun q => by cases q) (by show ¬ (_ ∨ (arrV _ _ _).slots.size ≤ _); rw [arrV_size]; exact i3_in hi0 hi1 hN) rfl rfl hd fun H1 e1 z1 oq => ?_
  have hA : off ≤ x.toNat + off := by omega
  refine kk h1 h2 H1 _ L hL (hW.write hc z1 ?_ oq) (hS.put z1 oq hA)
  show H1[x.toNat + off]? = some (vp_cell (K 0) (N, cnt off 0 (up F i z)))
  rw [e1]
  exact congrArg some (arr_up (g := fun w => .int (Int32.ofInt w)) (i3_clamp hi0 (by omega)))
theorem gx_last (hG : Cx own b mL rt isI d a n0 Q G) {x i z : Int} {N : Nat} {F : Int → Int} (hc : h x = cA 1 N F) (hi0 : 0 ≤ i) (hi1 : i < N) (hN : N ≤ 2147483647) (hd : decode b pc = .ok (.lastore, 1)) (hq : pc + 1 = q) (kk : G q ls st n (hset h x (cA 1 N (up F i z)))) : G pc ls (Vj z :: Vi i :: Vr x :: st) n h := by
  obtain ⟨p, l, e, R, s, m, args, below, meth, c, D, K, bb, off, Z, hx, hb, hml, hown, hK, hI, hR, hof, hfin, rfl⟩ := hG
  subst hq
  intro h1 h2 H locs L hL hW hS
  obtain ⟨h0, he, -⟩ := hW.at hc
  rw [List.map_cons, List.map_cons, List.map_cons, rl_r h0]
  refine W.last hx hb (hW.2.1 _ _ he) ((hK.1.2 1 _ (tysL_get (by decide))).1 N (fun j => Value.long _)) (fun q => by cases q) (by show ¬ (_ ∨ (arrV _ _ _).slots.size ≤ _); rw [arrV_size]; exact i3_in hi0 hi1 hN) rfl rfl hd fun H1 e1 z1 oq => ?_
  have hA : off ≤ x.toNat + off := by omega
  refine kk h1 h2 H1 _ L hL (hW.write hc z1 ?_ oq) (hS.put z1 oq hA)
  show H1[x.toNat + off]? = some (vp_cell (K 1) (N, cnt off 1 (up F i z)))
  rw [e1]
  exact congrArg some (arr_up (g := fun w => .long (Int64.ofInt w)) (i3_clamp hi0 (by omega)))
theorem gx_bast (hG : Cx own b mL rt isI d a n0 Q G) {x i z : Int} {N : Nat} {F : Int → Int} (hc : h x = cA 2 N F) (hi0 : 0 ≤ i) (hi1 : i < N) (hN : N ≤ 2147483647) (hz : narrow .byte (.int (Int32.ofInt z)) = .int (Int32.ofInt z)) (hd : decode b pc = .ok (.bastore, 1)) (hq : pc + 1 = q) (kk : G q ls st n (hset h x (cA 2 N (up F i z)))) : G pc ls (Vi z :: Vi i :: Vr x :: st) n h := by
  obtain ⟨p, l, e, R, s, m, args, below, meth, c, D, K, bb, off, Z, hx, hb, hml, hown, hK, hI, hR, hof, hfin, rfl⟩ := hG
  subst hq
  intro h1 h2 H locs L hL hW hS
  obtain ⟨h0, he, -⟩ := hW.at hc
  rw [List.map_cons, List.map_cons, List.map_cons, rl_r h0]
  refine W.bast hx hb (hW.2.1 _ _ he) ((hK.1.2 2 _ (tysL_get (by decide))).1 N (fun j => Value.int _)) (fun q => by cases q) (by show ¬ (_ ∨ (arrV _ _ _).slots.size ≤ _); rw [arrV_size]; exact i3_in hi0 hi1 hN) rfl rfl hd fun H1 e1 z1 oq => ?_
  have hA : off ≤ x.toNat + off := by omega
  refine kk h1 h2 H1 _ L hL (hW.write hc z1 ?_ oq) (hS.put z1 oq hA)
  show H1[x.toNat + off]? = some (vp_cell (K 2) (N, cnt off 2 (up F i z)))
  rw [e1]
  rw [hz]
  exact congrArg some (arr_up (g := fun w => .int (Int32.ofInt w)) (i3_clamp hi0 (by omega)))
theorem gx_zast (hG : Cx own b mL rt isI d a n0 Q G) {x i z : Int} {N : Nat} {F : Int → Int} (hc : h x = cA 3 N F) (hi0 : 0 ≤ i) (hi1 : i < N) (hN : N ≤ 2147483647) (hz : z = 0 ∨ z = 1) (hd : decode b pc = .ok (.bastore, 1)) (hq : pc + 1 = q) (kk : G q ls st n (hset h x (cA 3 N (up F i z)))) : G pc ls (Vi z :: Vi i :: Vr x :: st) n h := by
  obtain ⟨p, l, e, R, s, m, args, below, meth, c, D, K, bb, off, Z, hx, hb, hml, hown, hK, hI, hR, hof, hfin, rfl⟩ := hG
  subst hq
  intro h1 h2 H locs L hL hW hS
  obtain ⟨h0, he, -⟩ := hW.at hc
  rw [List.map_cons, List.map_cons, List.map_cons, rl_r h0]
  refine W.zast hx hb (hW.2.1 _ _ he) ((hK.1.2 3 _ (tysL_get (by decide))).1 N (fun j => Value.int _)) (fun q => by cases q) (by show ¬ (_ ∨ (arrV _ _ _).slots.size ≤ _); rw [arrV_size]; exact i3_in hi0 hi1 hN) rfl rfl hd fun H1 e1 z1 oq => ?_
  have hA : off ≤ x.toNat + off := by omega
  refine kk h1 h2 H1 _ L hL (hW.write hc z1 ?_ oq) (hS.put z1 oq hA)
  show H1[x.toNat + off]? = some (vp_cell (K 3) (N, cnt off 3 (up F i z)))
  rw [e1]
  rw [show narrow .boolean (.int (Int32.ofInt z)) = .int (Int32.ofInt z) by rcases hz with rfl | rfl <;> rfl]
  exact congrArg some (arr_up (g := fun w => .int (Int32.ofInt w)) (i3_clamp hi0 (by omega)))
theorem gx_alen (hG : Cx own b mL rt isI d a n0 Q G) {x : Int} {t N : Nat} {F : Int → Int} (hc : h x = cA t N F) (ht : t < 8) (hd : decode b pc = .ok (.arraylength, 1)) (hq : pc + 1 = q) (kk : G q ls (Vi N :: st) n h) : G pc ls (Vr x :: st) n h := by
  obtain ⟨p, l, e, R, s, m, args, below, meth, c, D, K, bb, off, Z, hx, hb, hml, hown, hK, hI, hR, hof, hfin, rfl⟩ := hG
  subst hq
  intro h1 h2 H locs L hL hW hS
  obtain ⟨h0, he, -⟩ := hW.at hc
  rw [List.map_cons, rl_r h0]
  exact va_alen (v := Int32.ofInt (N : Int)) hx hb hK.1 hW.2.1 x.toNat t he (tysL_get ht) (Int32.ofInt_eq_ofNat (n := N)).symm hd (kk h1 h2 H locs L hL hW hS)
end GH
