/-! part 88: arrays that agree below their length; an array of arrays -/
theorem arrV_ext {c : ClassId} {N : Nat} {f g : Nat → Value} (h : ∀ j, j < N → f j = g j) : arrV c N f = arrV c N g := by
  have e : (fun j : Fin N => f j.val) = (fun j : Fin N => g j.val) := funext (fun j => h j.1 j.2)
  unfold arrV
  rw [e]
theorem vpc_ext {c : ClassId} {off t N : Nat} {F F' : Int → Int} (e : ∀ i : Int, 0 ≤ i → i < N → F i = F' i) : vp_cell c (N, cnt off t F) = vp_cell c (N, cnt off t F') := by
  have e2 : ∀ j : Nat, j < N → F j = F' j := fun j hj => e j (by omega) (by omega)
  unfold cnt
  split
  · show arrV c N (fun j : Nat => .long (Int64.ofInt (F j))) = arrV c N (fun j : Nat => .long (Int64.ofInt (F' j)))
    exact arrV_ext (fun j hj => by rw [e2 j hj])
  · split
    · show arrV c N (fun j : Nat => .int (Int32.ofInt (F j))) = arrV c N (fun j : Nat => .int (Int32.ofInt (F' j)))
      exact arrV_ext (fun j hj => by rw [e2 j hj])
    · show arrV c N (fun j : Nat => va_rf (if F j < 0 then none else some ((F j).toNat + off))) = arrV c N (fun j : Nat => va_rf (if F' j < 0 then none else some ((F' j).toNat + off)))
      exact arrV_ext (fun j hj => by rw [e2 j hj])
theorem outer_eq {c : ClassId} {N h0 : Nat} : ∀ i : Nat, i ≤ N → Jvm.Free.Multi.outerC c N h0 i = arrV c N (fun j => if j < i then .ref (h0 + 1 + j) else .null)
  | 0, _ => by
    show ({ cls := c, slots := Array.replicate N .null, vm := .none } : Cell) = _
    rw [arrV_new]
    exact arrV_ext (fun j hj => (if_neg (by omega)).symm)
  | i + 1, h => by
    show (Jvm.Free.Multi.outerC c N h0 i).setSlot i (.ref (h0 + 1 + i)) = _
    rw [outer_eq i (by omega), arrV_store]
    refine arrV_ext (fun j hj => ?_)
    unfold updV
    by_cases e : j = i
    · rw [if_pos e, if_pos (by omega), e]
    · rw [if_neg e]
      show (if j < i then Value.ref (h0 + 1 + j) else .null) = _
      by_cases e2 : j < i
      · rw [if_pos e2, if_pos (by omega)]
      · rw [if_neg e2, if_neg (by omega)]
section GT
variable {own : String} {b : ByteArray} {mL : Nat} {rt : Option FieldType} {isI : Bool} {d a n0 : Nat} {Q : Option Value → AH → Prop} {G : Nat → List (Option Value) → List Value → Nat → AH → Prop}
variable {pc q tgt : Nat} {st : List Value} {ls : List (Option Value)} {n : Nat} {h : AH}
theorem gx_tail (hG : Cx own b mL rt isI d a n0 Q G) {h' : AH} (e : ∀ x : Int, h x = h' x ∨ ∃ (t N : Nat) (F F' : Int → Int), h x = cA t N F ∧ h' x = cA t N F' ∧ ∀ i : Int, 0 ≤ i → i < N → F i = F' i) (k : G pc ls st n h') : G pc ls st n h := by
  obtain ⟨p, l, e0, R, s, m, args, below, meth, c, D, K, bb, off, Z, hx, hb, hml, hown, hK, hI, hR, hof, hfin, rfl⟩ := hG
  intro h1 h2 H locs L hL hW hS
  refine k h1 h2 H locs L hL ⟨hW.1, fun i q hq => ?_, fun x => ?_⟩ hS
  · obtain ⟨hk1, rfl⟩ := wld_some hq
    have hp0 := hW.2.1 i _ (wld_get hk1)
    rcases e (i : Int) with g | ⟨t, N, F, F', g1, g2, g3⟩
    · rw [g] at hp0
      exact hp0
    · rw [g1] at hp0
      rw [g2]
      have hp1 : H[i + off]? = some (vp_cell (K t) (N, cnt off t F)) := hp0
      show H[i + off]? = some (vp_cell (K t) (N, cnt off t F'))
      rw [← vpc_ext g3]
      exact hp1
  · rw [← hW.2.2 x]
    rcases e x with g | ⟨t, N, F, F', g1, g2, g3⟩
    · rw [g]
    · rw [g1, g2]
      simp [cA]
def mnaH (h : AH) (n N M : Nat) : AH := fun x => if x = (n : Int) then cA 7 N (fun i => n + 1 + i) else if (n : Int) + 1 ≤ x ∧ x < n + 1 + N then cA 1 M (fun _ => 0) else h x
theorem gx_mna (hG : Cx own b mL rt isI d a n0 Q G) {idx N M : Nat} (hN : N ≤ 1000) (hNM : N * M ≤ 16500) (hM : M ≤ 16500) (hl : Cond.classLink own idx "[[J" ∈ lw_tbl) (hn : n + (1 + N) ≤ n0 + a) (hd : decode b pc = .ok (.multianewarray idx 2, 4)) (hq : pc + 4 = q) (k : G q ls (Vr n :: st) (n + (1 + N)) (mnaH h n N M)) : G pc ls (Vi (M : Int) :: Vi (N : Int) :: st) n h := by
  obtain ⟨p, l, e0, R, s, m, args, below, meth, c, D, K, bb, off, Z, hx, hb, hml, hown, hK, hI, hR, hof, hfin, rfl⟩ := hG
  subst hq
  intro h1 h2 H locs L hL hW hS
  have hclN := i3_clamp (i := (N : Int)) (by omega) (by omega)
  have hclM := i3_clamp (i := (M : Int)) (by omega) (by omega)
  have hN2 : (Int32.ofInt (N : Int)).toNatClampNeg = N := by omega
  have hM2 : (Int32.ofInt (M : Int)).toNatClampNeg = M := by omega
  have hnegN : ¬ Int32.ofInt (N : Int) < 0 := by
    rw [← i3_zero, i3_lt ⟨by omega, by omega⟩ ⟨by omega, by omega⟩]
    omega
  have hnegM : ¬ Int32.ofInt (M : Int) < 0 := by
    rw [← i3_zero, i3_lt ⟨by omega, by omega⟩ ⟨by omega, by omega⟩]
    omega
  intro T hT X
  have hc8 : componentBytes .long = 8 := rfl
  obtain ⟨vm₁, cA', comp, -, fA, fC, -, -, X', step⟩ := X.multianewarray2F (ty := .long) (n := Int32.ofInt (N : Int)) (k := Int32.ofInt (M : Int)) (rest := st.map (rl bb off)) (g := F0 m pc L ((Vi (M : Int) :: Vi (N : Int) :: st).map (rl bb off))) hx hown (hK.2.2 _ _ (gtb_in hl rfl)) (hK.2.2 _ _ (gtb_in ao_long rfl)) (hK.2.2 _ _ (gtb_in ac_long rfl)) rfl (by rw [hb]; exact hd) rfl hnegN hnegM (by rw [hN2]; omega) (by rw [hM2, hc8]; omega) (by rw [hM2]; omega) rfl rfl (by rw [hN2]; omega) (by rw [hN2, hM2]; omega)
  have r7 : s.vm.findClass ("[" ++ (FieldType.array .long).toString) = some (K 7) := (hK.1.2 7 _ (tysL_get (K := K) (by omega))).2
  have r1 : s.vm.findClass ("[" ++ (FieldType.long).toString) = some (K 1) := (hK.1.2 1 _ (tysL_get (K := K) (by omega))).2
  have eA : cA' = K 7 := Option.some.inj (fA.symm.trans r7)
  have eC : comp = K 1 := Option.some.inj (fC.symm.trans r1)
  subst eA
  subst eC
  rw [hN2, hM2] at X' step
  generalize hF : Jvm.Free.Multi.fill (T.setVm vm₁) (K 7) (K 1) N M (defaultValue .long) N = F at X' step
  have hTh : (T.setVm vm₁).heap = H := hT
  obtain ⟨f1, f2, -, -⟩ := Jvm.Free.Multi.fill_facts (T.setVm vm₁) (K 7) (K 1) N M (defaultValue .long) N
  rw [hF, hTh] at f1 f2
  have hold : ∀ x : Nat, x < H.size → F.heap[x]? = H[x]? := fun x hx => by
    have := Jvm.Free.Multi.fill_old (T.setVm vm₁) (K 7) (K 1) N M (defaultValue .long) (a := x) (by rw [hTh]; exact hx) N
    rw [hF, hTh] at this
    exact this
  have hrow : ∀ j : Nat, j < N → F.heap[H.size + 1 + j]? = some (Jvm.Free.Multi.innerC (K 1) M (defaultValue .long)) := fun j hj => by
    have := Jvm.Free.Multi.fill_inner (T.setVm vm₁) (K 7) (K 1) N M (defaultValue .long) N j hj
    rw [hF, hTh] at this
    exact this
  have hz : H.size = n + off := hW.1
  have hD := hW.2.2
  have hW1 : Wd bb off D K (n + (1 + N)) (mnaH h n N M) F.heap := by
    refine ⟨by rw [f1, hz]; omega, fun i q hq => ?_, fun x => ?_⟩
    · obtain ⟨hk1, rfl⟩ := wld_some hq
      by_cases c1 : i < n
      · have hp0 := (hW.2.1.kept (H1 := F.heap) (fun k q hk => hold q.1 ((hW.2.1 k q hk).lt))) i _ (wld_get c1)
        have : mnaH h n N M (i : Int) = h i := by
          unfold mnaH
          rw [if_neg (by omega), if_neg (by omega)]
        rw [this]
        exact hp0
      · by_cases c2 : i = n
        · subst c2
          have : mnaH h i N M (i : Int) = cA 7 N (fun j => i + 1 + j) := if_pos rfl
          rw [this]
          show F.heap[i + off]? = some (vp_cell (K 7) (N, cnt off 7 (fun j => (i : Int) + 1 + j)))
          rw [← hz, f2]
          rw [outer_eq N (Nat.le_refl _)]
          congr 1
          exact arrV_ext (fun j hj => by
            show (if j < N then Value.ref (H.size + 1 + j) else .null) = va_rf (if (i : Int) + 1 + (j : Int) < 0 then none else some (((i : Int) + 1 + (j : Int)).toNat + off))
            rw [if_pos hj, if_neg (by omega), show H.size + 1 + j = ((i : Int) + 1 + (j : Int)).toNat + off by omega]
            rfl)
        · have : mnaH h n N M (i : Int) = cA 1 M (fun _ => 0) := by
            unfold mnaH
            rw [if_neg (by omega), if_pos (by omega)]
          rw [this]
          show F.heap[i + off]? = some (vp_cell (K 1) (M, cnt off 1 (fun _ => 0)))
          have := hrow (i - n - 1) (by omega)
          rw [show H.size + 1 + (i - n - 1) = i + off by omega] at this
          rw [this, arr_new (by decide)]
          rfl
    · unfold mnaH
      by_cases c1 : x = (n : Int)
      · rw [if_pos c1]
        simp [cA]
        omega
      · rw [if_neg c1]
        by_cases c2 : (n : Int) + 1 ≤ x ∧ x < n + 1 + N
        · rw [if_pos c2]
          simp [cA]
          omega
        · rw [if_neg c2, hD x]
          omega
  have hS1 : va_S (fun q => off ≤ q) s.heap F.heap locs := ⟨by have := hS.1; omega, fun q g1 g2 => (hold q (Nat.lt_of_lt_of_le g1 hS.1)).trans (hS.2.1 q g1 g2), hS.2.2⟩
  have key := k (by omega) (by omega) F.heap locs L hL hW1 hS1
  rw [List.map_cons, rl_r (by omega)] at key
  obtain ⟨t, a1, b1⟩ := W.widen (cells := n - n0 + 1 + N) (slots := 16500 * (n - n0) + N + N * M) (by omega) (by omega) key F rfl X'
  refine ⟨t, step t ?_, b1⟩
  have eT : T.heap.size = ((n : Int)).toNat + off := by rw [hT, hz]; rfl
  rw [eT]
  exact a1
end GT
theorem ev_Su_init {n : Nat} {h : AH} {x : Int} (h1 : h x = cO 10 [.null, .null, Vi 0, .null, .null, .null]) (h2 : 0 ≤ x ∧ x < n) : Ev y_Su_init b_Su_init 1 none 2 26 [Vr x] n h (fun v h' => v = none ∧ h' = hset (mnaH (hset (hset (hset (hset (hset (hset (hset (hset h n (cA 0 60 (fun _ => 0))) x (cO 10 [Vr n, .null, Vi 0, .null, .null, .null])) ((n + 1 : Nat) : Int) (cA 0 60 (fun _ => 0))) x (cO 10 [Vr n, Vr ((n + 1 : Nat) : Int), Vi 0, .null, .null, .null])) ((n + 1 + 1 : Nat) : Int) (cA 0 4001 (fun _ => 0))) x (cO 10 [Vr n, Vr ((n + 1 : Nat) : Int), Vi 0, Vr ((n + 1 + 1 : Nat) : Int), .null, .null])) ((n + 1 + 1 + 1 : Nat) : Int) (cA 1 401 (fun _ => 0))) x (cO 10 [Vr n, Vr ((n + 1 : Nat) : Int), Vi 0, Vr ((n + 1 + 1 : Nat) : Int), Vr ((n + 1 + 1 + 1 : Nat) : Int), .null])) (n + 1 + 1 + 1 + 1) 21 401) x (cO 10 [Vr n, Vr ((n + 1 : Nat) : Int), Vi 0, Vr ((n + 1 + 1 : Nat) : Int), Vr ((n + 1 + 1 + 1 : Nat) : Int), Vr ((n + 1 + 1 + 1 + 1 : Nat) : Int)])) := by
  refine Ev.mk (isI := true) (by decide +kernel) (fun _ => rfl) (Nat.le_of_ble_eq_true rfl) (fun G hG => ?_)
  show G 0 [some (Vr x)] [] n h
  refine gx_aload0 (q := 1) hG d_Su_init_0 rfl ?_
  refine gx_objinit (q := 4) hG l_Su_3 h2.1 w_ob (by decide) (by decide) d_Su_init_1 rfl ?_
  refine gx_aload0 (q := 5) hG d_Su_init_4 rfl ?_
  refine gx_bipush (q := 7) hG d_Su_init_5 rfl rfl ?_
  refine gx_newa (q := 9) (t := 0) (N := 60) hG (by decide) rfl ac_int (by decide) (by omega) d_Su_init_7 rfl ?_
  refine gx_put (q := 12) (k := 0) hG f_Su_9 (by rw [hset_ne (by omega)]; exact h1) (Nat.le_of_ble_eq_true rfl) vfit_a (Or.inr rfl) d_Su_init_9 rfl ?_
  refine gx_aload0 (q := 13) hG d_Su_init_12 rfl ?_
  refine gx_bipush (q := 15) hG d_Su_init_13 rfl rfl ?_
  refine gx_newa (q := 17) (t := 0) (N := 60) hG (by decide) rfl ac_int (by decide) (by omega) d_Su_init_15 rfl ?_
  refine gx_put (q := 20) (k := 1) hG f_Su_15 (by rw [hset_ne (by omega), hset_eq]) (Nat.le_of_ble_eq_true rfl) vfit_a (Or.inr rfl) d_Su_init_17 rfl ?_
  refine gx_aload0 (q := 21) hG d_Su_init_20 rfl ?_
  refine gx_sipush (q := 24) hG d_Su_init_21 rfl rfl ?_
  refine gx_newa (q := 26) (t := 0) (N := 4001) hG (by decide) rfl ac_int (by decide) (by omega) d_Su_init_24 rfl ?_
  refine gx_put (q := 29) (k := 3) hG f_Su_18 (by rw [hset_ne (by omega), hset_eq]) (Nat.le_of_ble_eq_true rfl) vfit_a (Or.inr rfl) d_Su_init_26 rfl ?_
  refine gx_aload0 (q := 30) hG d_Su_init_29 rfl ?_
  refine gx_sipush (q := 33) hG d_Su_init_30 rfl rfl ?_
  refine gx_newa (q := 35) (t := 1) (N := 401) hG (by decide) rfl ac_long (by decide) (by omega) d_Su_init_33 rfl ?_
  refine gx_put (q := 38) (k := 4) hG f_Su_21 (by rw [hset_ne (by omega), hset_eq]) (Nat.le_of_ble_eq_true rfl) vfit_a (Or.inr rfl) d_Su_init_35 rfl ?_
  refine gx_aload0 (q := 39) hG d_Su_init_38 rfl ?_
  refine gx_bipush (q := 41) hG d_Su_init_39 rfl rfl ?_
  refine gx_sipush (q := 44) hG d_Su_init_41 rfl rfl ?_
  refine gx_mna (q := 48) (N := 21) (M := 401) hG (by decide) (by decide) (by decide) t_Su_25 (by omega) d_Su_init_44 rfl ?_
  refine gx_put (q := 51) (k := 5) hG f_Su_27 (by unfold mnaH; rw [if_neg (by omega), if_neg (by omega), hset_eq]) (Nat.le_of_ble_eq_true rfl) vfit_a (Or.inr rfl) d_Su_init_48 rfl ?_
  exact gx_return hG d_Su_init_51 rfl (by omega) ⟨rfl, rfl⟩
