/-! part 54: the fewest, on the class's side -/
def LV (B : Int) (P : Nat → Prop) (z : Int) : Prop := (∃ t : Nat, z = (t : Int) ∧ P t ∧ ∀ u : Nat, u < t → ¬ P u) ∨ (z = B ∧ ∀ u : Nat, ¬ P u)
theorem LV_congr {B : Int} {P Q : Nat → Prop} {z : Int} (e : ∀ t, P t ↔ Q t) (h : LV B P z) : LV B Q z := by
  rcases h with ⟨t, h1, h2, h3⟩ | ⟨h1, h2⟩
  · exact Or.inl ⟨t, h1, (e t).mp h2, fun u hu q => h3 u hu ((e u).mpr q)⟩
  · exact Or.inr ⟨h1, fun u q => h2 u ((e u).mpr q)⟩
theorem LV_bd {B : Int} (hB : 5000 ≤ B) {P : Nat → Prop} {z : Int} (h : LV B P z) (hb : ∀ t, P t → t ≤ 4000) : 0 ≤ z ∧ z ≤ B := by
  rcases h with ⟨t, h1, h2, h3⟩ | ⟨h1, h2⟩
  · have := hb t h2
    omega
  · omega
theorem LV_min {B : Int} (hB : 5000 ≤ B) {P Q : Nat → Prop} {x y : Int} {d : Nat} (hP : LV B P x) (hQ : LV B Q y) (bP : ∀ t, P t → t ≤ 4000) (bQ : ∀ t, Q t → t ≤ 4000) (hd : d ≤ 3) : LV B (fun t => P t ∨ (d ≤ t ∧ Q (t - d))) (min x (y + d)) := by
  rcases hP with ⟨t, h1, h2, h3⟩ | ⟨h1, h2⟩
  · have b1 := bP t h2
    rcases hQ with ⟨u, g1, g2, g3⟩ | ⟨g1, g2⟩
    · have b2 := bQ u g2
      by_cases c : x ≤ y + d
      · rw [Int.min_eq_left c]
        refine Or.inl ⟨t, h1, Or.inl h2, fun r hr q => ?_⟩
        rcases q with q | ⟨q1, q2⟩
        · exact h3 r hr q
        · exact g3 (r - d) (by omega) q2
      · rw [Int.min_eq_right (by omega)]
        refine Or.inl ⟨u + d, by omega, Or.inr ⟨by omega, by rw [show u + d - d = u by omega]; exact g2⟩, fun r hr q => ?_⟩
        rcases q with q | ⟨q1, q2⟩
        · exact h3 r (by omega) q
        · exact g3 (r - d) (by omega) q2
    · rw [Int.min_eq_left (by omega)]
      refine Or.inl ⟨t, h1, Or.inl h2, fun r hr q => ?_⟩
      rcases q with q | ⟨q1, q2⟩
      · exact h3 r hr q
      · exact g2 (r - d) q2
  · rcases hQ with ⟨u, g1, g2, g3⟩ | ⟨g1, g2⟩
    · have b2 := bQ u g2
      rw [Int.min_eq_right (by omega)]
      refine Or.inl ⟨u + d, by omega, Or.inr ⟨by omega, by rw [show u + d - d = u by omega]; exact g2⟩, fun r hr q => ?_⟩
      rcases q with q | ⟨q1, q2⟩
      · exact h2 r q
      · exact g3 (r - d) (by omega) q2
    · rw [Int.min_eq_left (by omega)]
      refine Or.inr ⟨h1, fun r q => ?_⟩
      rcases q with q | ⟨q1, q2⟩
      · exact h2 r q
      · exact g2 (r - d) q2
/-- the fewest, by what it is -/
noncomputable def fewZ (P : Nat → Prop) : Int := Classical.epsilon (LV 99999 P)
theorem LV_uniq {B : Int} {P : Nat → Prop} {x y : Int} (h1 : LV B P x) (h2 : LV B P y) : x = y := by
  rcases h1 with ⟨t, a1, a2, a3⟩ | ⟨a1, a2⟩
  · rcases h2 with ⟨u, b1, b2, b3⟩ | ⟨b1, b2⟩
    · rcases Nat.lt_trichotomy t u with c | c | c
      · exact absurd a2 (b3 t c)
      · omega
      · exact absurd b2 (a3 u c)
    · exact absurd a2 (b2 t)
  · rcases h2 with ⟨u, b1, b2, b3⟩ | ⟨b1, b2⟩
    · exact absurd b2 (a2 u)
    · omega
theorem fewZ_eq {P : Nat → Prop} {z : Int} (h : LV 99999 P z) : fewZ P = z := LV_uniq (Classical.epsilon_spec (p := LV 99999 P) ⟨z, h⟩) h
theorem LV_chg {B : Int} (hB : 5000 ≤ B) {P : Nat → Prop} {z : Int} (h : LV B P z) (hb : ∀ t, P t → t ≤ 4000) : (z < B ↔ ∃ t, P t) ∧ (z < B → fewZ P = z) ∧ (¬ z < B → fewZ P = 99999) := by
  rcases h with ⟨t, h1, h2, h3⟩ | ⟨h1, h2⟩
  · have := hb t h2
    exact ⟨⟨fun _ => ⟨t, h2⟩, fun _ => by omega⟩, fun _ => fewZ_eq (Or.inl ⟨t, h1, h2, h3⟩), fun q => by omega⟩
  · exact ⟨⟨fun q => by omega, fun ⟨t, q⟩ => absurd q (h2 t)⟩, fun q => by omega, fun _ => fewZ_eq (Or.inr ⟨rfl, h2⟩)⟩
/-- what only hidden cells of the class differ in -/
def SX (w w' : Mem) : Prop := aX w' = aX w ∧ XJ w' ∧ ∀ b, 76 ≤ b → w' b = w b
theorem SX_scr {w w' : Mem} (hj : XJ w) (h : ∀ b, b < 15 ∨ 46 ≤ b → w' b = w b) : SX w w' :=
  ⟨aX_scr (fun b hb => h b (by omega)), hj.ext (fun b hb => h b (by omega)), fun b hb => h b (by omega)⟩
theorem SX_id {w : Mem} (hj : XJ w) : SX w w := ⟨rfl, hj, fun _ _ => rfl⟩
theorem SX.tr {w w' w2 : Mem} (h : SX w w') (h2 : SX w' w2) : SX w w2 := ⟨h2.1.trans h.1, h2.2.1, fun b hb => (h2.2.2 b hb).trans (h.2.2 b hb)⟩
theorem SX.ok {w w' : Mem} (h : SX w w') (hO : OK (aX w)) : OK (aX w') := by rw [h.1]; exact hO
theorem PX_tr {w w2 w' : Mem} {p : Int × Sta} {z : Int} (h : SX w w2) (h2 : PX w2 p z w') : PX w p z w' := ⟨h2.1, h2.2.1, h2.2.2.1, fun b hb => (h2.2.2.2 b hb).trans (h.2.2 b hb)⟩
theorem PX_aside {w : Mem} {v z : Int} (hj : XJ w) : PX w (z, ss (aX w) 4 3 v) z (wu w 0 11 v) := PX_mk aX_u11 hj (fun b hb => wu_ne (by omega))
def FCX (law : Int) (num : Int → Int) (k : Nat) (x : Int) (F : Int → Int) (top : Int) : Prop := ∀ v : Int, 0 ≤ v → v ≤ top → (v < x → LV 1048576 (wy law num (k + 1) v) (F v)) ∧ (x ≤ v → LV 1048576 (wy law num k v) (F v))
theorem FCX_step {law : Int} {num : Int → Int} {k : Nat} {x a top : Int} {F : Int → Int} (hl : law ≠ 2) (hn : ∀ i : Int, 0 ≤ i → i < k + 1 → 1 ≤ num i) (ha : num k = a) (hx : a ≤ x) (ht : top ≤ 4000) (hxt : x ≤ top) (h : FCX law num k x F top) : FCX law num k (x + 1) (up F x (min (F x) (F (x - a) + 1))) top := by
  have ha1 := hn k (by omega) (by omega)
  have e : LV 1048576 (wy law num (k + 1) x) (min (F x) (F (x - a) + 1)) := by
    refine LV_congr (fun t => (wy_s hl).symm) ?_
    rw [ha]
    exact LV_min (d := 1) (by omega) ((h x (by omega) hxt).2 (by omega)) ((h (x - a) (by omega) (by omega)).1 (by omega)) (fun t q => by have := wy_le k (fun i i0 i1 => hn i i0 (by omega)) _ _ q; omega) (fun t q => by have := wy_le (k + 1) (fun i i0 i1 => hn i i0 (by omega)) _ _ q; omega) (by omega)
  intro v v0 v1
  unfold up
  by_cases c : v = x
  · rw [if_pos c, c]
    exact ⟨fun _ => e, fun q => by omega⟩
  · rw [if_neg c]
    exact ⟨fun q => (h v v0 v1).1 (by omega), fun q => (h v v0 v1).2 (by omega)⟩
theorem FCX_bd {law : Int} {num : Int → Int} {k : Nat} {x top v : Int} {F : Int → Int} (hn : ∀ i : Int, 0 ≤ i → i < k + 1 → 1 ≤ num i) (ht : top ≤ 4000) (h : FCX law num k x F top) (hv : 0 ≤ v ∧ v ≤ top) : 0 ≤ F v ∧ F v ≤ 1048576 := by
  rcases Int.lt_or_le v x with c | c
  · exact LV_bd (by omega) ((h v hv.1 hv.2).1 c) (fun t q => by have := wy_le (k + 1) (fun i i0 i1 => hn i i0 (by omega)) _ _ q; omega)
  · exact LV_bd (by omega) ((h v hv.1 hv.2).2 c) (fun t q => by have := wy_le k (fun i i0 i1 => hn i i0 (by omega)) _ _ q; omega)
theorem wc_wc {w : Mem} {a : Int} {F F' : Int → Int} : wc (wc w a F) a F' = wc w a F' := by
  funext b
  unfold wc
  split <;> rfl
theorem ev_Su_takeOften {w : Mem} {a v law : Int} {num F0 : Int → Int} {k : Nat} (hl : law ≠ 2) (hv : 1 ≤ v ∧ v ≤ 4000) (hn : ∀ i : Int, 0 ≤ i → i < k + 1 → 1 ≤ num i ∧ num i ≤ 60) (ha : num k = a) (hF : ∀ x : Int, 0 ≤ x → x ≤ v → LV 1048576 (wy law num k x) (F0 x)) (hw : w 22 = F0) : EvV y_Su_takeOften b_Su_takeOften 4 none (2) [Vr 19, Vi a, Vi v] w (fun w' => ∃ F, w' = wc w 22 F ∧ ∀ x : Int, 0 ≤ x → x ≤ v → LV 1048576 (wy law num (k + 1) x) (F x)) := by
  refine Ev.mk (isI := false) (by decide +kernel) nofun (Nat.le_of_ble_eq_true rfl) (fun G hG => ?_)
  show G 0 [some (Vr 19), some (Vi a), some (Vi v), none] [] 102 (hp w)
  have hak := hn k (by omega) (by omega)
  rw [ha] at hak
  have hn1 : ∀ i : Int, 0 ≤ i → i < k + 1 → 1 ≤ num i := fun i i0 i1 => (hn i i0 i1).1
  have L : ∀ (j : Nat) (y : Int) (F : Int → Int), (y + j = v + 1 ∨ (j = 0 ∧ v < y)) → (a ≤ y ∧ y ≤ 4001) → FCX law num k y F v → G 2 [some (Vr 19), some (Vi a), some (Vi v), some (Vi y)] [] 102 (hp (wc w 22 F)) := by
    intro j
    induction j with
    | zero =>
      intro y F h1 h2 h3
      have hy : v < y := by omega
      refine gx_iload3 (q := 3) hG d_Su_takeOften_2 rfl ?_
      refine gx_iload2 (q := 4) hG d_Su_takeOften_3 rfl ?_
      refine gx_icmp_gt (tgt := 38) (q := 7) hG d_Su_takeOften_4 rfl rfl (by omega) (by omega) (fun c4 => ?_) (fun c4 => ?_)
      · refine gx_return hG d_Su_takeOften_38 rfl rfl ?_
        exact ⟨_, rfl, rfl, F, rfl, fun x x0 x1 => (h3 x x0 x1).1 (by omega)⟩
      · exfalso; omega
    | succ j ih =>
      intro y F h1 h2 h3
      have hy : y ≤ v := by omega
      have b1 := FCX_bd hn1 (by omega) h3 (v := y) (by omega)
      have b2 := FCX_bd hn1 (by omega) h3 (v := y - a) (by omega)
      refine gx_iload3 (q := 3) hG d_Su_takeOften_2 rfl ?_
      refine gx_iload2 (q := 4) hG d_Su_takeOften_3 rfl ?_
      refine gx_icmp_gt (tgt := 38) (q := 7) hG d_Su_takeOften_4 rfl rfl (by omega) (by omega) (fun c4 => ?_) (fun c4 => ?_)
      · exfalso; omega
      · refine gx_aload0 (q := 8) hG d_Su_takeOften_7 rfl ?_
        refine gx_get (q := 11) hG f_Su_18 hpSu rfl d_Su_takeOften_8 rfl ?_
        refine gx_iload3 (q := 12) hG d_Su_takeOften_11 rfl ?_
        refine gx_aload0 (q := 13) hG d_Su_takeOften_12 rfl ?_
        refine gx_get (q := 16) hG f_Su_18 hpSu rfl d_Su_takeOften_13 rfl ?_
        refine gx_iload3 (q := 17) hG d_Su_takeOften_16 rfl ?_
        refine gw_iald (q := 18) hG rfl (by omega) (by omega) d_Su_takeOften_17 rfl ?_
        rw [wc_eq]
        refine gx_aload0 (q := 19) hG d_Su_takeOften_18 rfl ?_
        refine gx_get (q := 22) hG f_Su_18 hpSu rfl d_Su_takeOften_19 rfl ?_
        refine gx_iload3 (q := 23) hG d_Su_takeOften_22 rfl ?_
        refine gx_iload1 (q := 24) hG d_Su_takeOften_23 rfl ?_
        refine gx_isub (q := 25) hG d_Su_takeOften_24 rfl ?_
        refine gw_iald (q := 26) hG rfl (by omega) (by omega) d_Su_takeOften_25 rfl ?_
        rw [wc_eq]
        refine gx_iconst (q := 27) hG d_Su_takeOften_26 rfl ?_
        refine gx_iadd (q := 28) hG d_Su_takeOften_27 rfl ?_
        refine gw_S2X (q := 31) hG l_Su_80 c_Ma_min (ev_Ma_min (by first | assumption | omega) (by first | assumption | omega)) (by decide) (Nat.le_of_ble_eq_true rfl) d_Su_takeOften_28 rfl (by decide) ?_
        refine gw_iast (q := 32) hG rfl (by omega) (by omega) d_Su_takeOften_31 rfl ?_
        rw [wu_wcc]
        refine gx_iinc3 (q := 35) hG d_Su_takeOften_32 rfl rfl ?_
        refine gx_goto (tgt := 2) hG d_Su_takeOften_35 rfl ?_
        exact ih (y + 1) _ (by omega) (by omega) (FCX_step hl hn1 ha h2.1 (by omega) hy h3)
  have e0 : w = wc w 22 F0 := by
    funext b
    show w b = if b = 22 then F0 else w b
    split
    · rename_i h
      rw [h, hw]
    · rfl
  refine gx_iload1 (q := 1) hG d_Su_takeOften_0 rfl ?_
  refine gx_istore3 (q := 2) hG d_Su_takeOften_1 rfl rfl ?_
  rw [e0]
  exact L (v + 1 - a).toNat a F0 (by omega) (by omega) (fun x x0 x1 => ⟨fun q => LV_congr (fun t => (wy_low hn1 (by omega)).symm) (hF x x0 x1), fun _ => hF x x0 x1⟩)
def FEX (num : Int → Int) (k : Nat) (x : Int) (F : Int → Int) (top : Int) : Prop := ∀ v : Int, 0 ≤ v → v ≤ top → (x < v → LV 1048576 (wy 2 num (k + 1) v) (F v)) ∧ (v ≤ x → LV 1048576 (wy 2 num k v) (F v))
theorem wyp_ge {num : Int → Int} {k p : Nat} {v : Int} {t : Nat} (hn : ∀ i : Int, 0 ≤ i → i < k + 1 → 1 ≤ num i) (hp : p ≤ 3) (hv : p < 3 → v < ((p : Int) + 1) * num k) : wyp 2 num k p v t ↔ wy 2 num (k + 1) v t := by
  rw [← wyp_3]
  constructor
  · rintro ⟨j, h1, h2, h3⟩
    exact ⟨j, by omega, h2, h3⟩
  · rintro ⟨j, h1, h2, h3⟩
    by_cases c : j ≤ p
    · exact ⟨j, c, h2, h3⟩
    · have hv' := hv (by omega)
      have hk := hn k (by omega) (by omega)
      have i3 : ((p : Int) + 1) * num k ≤ (j : Int) * num k := Int.mul_le_mul_of_nonneg_right (by omega) (by omega)
      exact absurd h3 (wy_neg (fun i i0 i1 => hn i i0 (by omega)) (by omega))
theorem wyp_q {num : Int → Int} {k p : Nat} {v : Int} {t : Nat} : wyp 2 num k (p + 1) v t ↔ (wyp 2 num k p v t ∨ (p + 1 ≤ t ∧ wy 2 num k (v - ((p : Int) + 1) * num k) (t - (p + 1)))) := by
  unfold wyp
  constructor
  · rintro ⟨j, h1, h2, h3⟩
    by_cases c : j ≤ p
    · exact Or.inl ⟨j, c, h2, h3⟩
    · have e : j = p + 1 := by omega
      subst e
      exact Or.inr ⟨h2, h3⟩
  · rintro (⟨j, h1, h2, h3⟩ | ⟨h2, h3⟩)
    · exact ⟨j, by omega, h2, h3⟩
    · exact ⟨p + 1, by omega, h2, h3⟩
theorem FEX_bd {num : Int → Int} {k : Nat} {x top v : Int} {F : Int → Int} (hn : ∀ i : Int, 0 ≤ i → i < k + 1 → 1 ≤ num i) (ht : top ≤ 4000) (h : FEX num k x F top) (hv : 0 ≤ v ∧ v ≤ top) : 0 ≤ F v ∧ F v ≤ 1048576 := by
  rcases Int.lt_or_le x v with c | c
  · exact LV_bd (by omega) ((h v hv.1 hv.2).1 c) (fun t q => by have := wy_le (k + 1) (fun i i0 i1 => hn i i0 (by omega)) _ _ q; omega)
  · exact LV_bd (by omega) ((h v hv.1 hv.2).2 c) (fun t q => by have := wy_le k (fun i i0 i1 => hn i i0 (by omega)) _ _ q; omega)
theorem ev_Su_takeThrice {w : Mem} {a v : Int} {num F0 : Int → Int} {k : Nat} (hv : 1 ≤ v ∧ v ≤ 4000) (hn : ∀ i : Int, 0 ≤ i → i < k + 1 → 1 ≤ num i ∧ num i ≤ 60) (ha : num k = a) (hF : ∀ x : Int, 0 ≤ x → x ≤ v → LV 1048576 (wy 2 num k x) (F0 x)) (hw : w 22 = F0) : EvV y_Su_takeThrice b_Su_takeThrice 5 none (2) [Vr 19, Vi a, Vi v] w (fun w' => ∃ F, w' = wc w 22 F ∧ ∀ x : Int, 0 ≤ x → x ≤ v → LV 1048576 (wy 2 num (k + 1) x) (F x)) := by
  refine Ev.mk (isI := false) (by decide +kernel) nofun (Nat.le_of_ble_eq_true rfl) (fun G hG => ?_)
  show G 0 [some (Vr 19), some (Vi a), some (Vi v), none, none] [] 102 (hp w)
  have hak := hn k (by omega) (by omega)
  rw [ha] at hak
  have hn1 : ∀ i : Int, 0 ≤ i → i < k + 1 → 1 ≤ num i := fun i i0 i1 => (hn i i0 i1).1
  -- the inner loop, at times = p + 1
  have I : ∀ (j p : Nat) (y : Int) (F : Int → Int), p + j = 3 → a ≤ y → y ≤ v → (∀ x : Int, 0 ≤ x → x ≤ v → (y < x → LV 1048576 (wy 2 num (k + 1) x) (F x)) ∧ (x < y → LV 1048576 (wy 2 num k x) (F x))) → LV 1048576 (wyp 2 num k p y) (F y) → (∀ (F' : Int → Int) (p' : Int), FEX num k (y - 1) F' v → G 59 [some (Vr 19), some (Vi a), some (Vi v), some (Vi y), some (Vi p')] [] 102 (hp (wc w 22 F'))) → G 10 [some (Vr 19), some (Vi a), some (Vi v), some (Vi y), some (Vi ((p : Int) + 1))] [] 102 (hp (wc w 22 F)) := by
    intro j
    induction j with
    | zero =>
      intro p y F h1 h2 h2' h3 h4 hk
      refine gx_iload4 (q := 12) hG d_Su_takeThrice_10 rfl ?_
      refine gx_iconst (q := 13) hG d_Su_takeThrice_12 rfl ?_
      refine gx_icmp_gt (tgt := 59) (q := 16) hG d_Su_takeThrice_13 rfl rfl (by omega) (by omega) (fun c13 => ?_) (fun c13 => ?_)
      · refine hk F _ (fun x x0 x1 => ⟨fun q => ?_, fun q => (h3 x x0 x1).2 (by omega)⟩)
        by_cases c : x = y
        · subst c
          exact LV_congr (fun t => wyp_ge hn1 (by omega) (fun z => by omega)) h4
        · exact (h3 x x0 x1).1 (by omega)
      · exfalso; omega
    | succ j ih =>
      intro p y F h1 h2 h2' h3 h4 hk
      have hmul : a ≤ ((p : Int) + 1) * a := by
        have := Int.mul_le_mul_of_nonneg_right (show (1 : Int) ≤ (p : Int) + 1 by omega) (show 0 ≤ a by omega)
        omega
      have hmul2 : ((p : Int) + 1) * a ≤ 180 := by
        have := Int.mul_le_mul (show ((p : Int) + 1) ≤ 3 by omega) hak.2 (by omega) (by omega)
        omega
      have b1 : 0 ≤ F y ∧ F y ≤ 1048576 := LV_bd (by omega) h4 (fun t q => by have := wyp_le hn1 q; omega)
      refine gx_iload4 (q := 12) hG d_Su_takeThrice_10 rfl ?_
      refine gx_iconst (q := 13) hG d_Su_takeThrice_12 rfl ?_
      refine gx_icmp_gt (tgt := 59) (q := 16) hG d_Su_takeThrice_13 rfl rfl (by omega) (by omega) (fun c13 => ?_) (fun c13 => ?_)
      · exfalso; omega
      · refine gx_iload4 (q := 18) hG d_Su_takeThrice_16 rfl ?_
        refine gx_iload1 (q := 19) hG d_Su_takeThrice_18 rfl ?_
        refine gx_imul (q := 20) hG d_Su_takeThrice_19 rfl ?_
        refine gx_iload3 (q := 21) hG d_Su_takeThrice_20 rfl ?_
        refine gx_icmp_gt (tgt := 59) (q := 24) hG d_Su_takeThrice_21 rfl rfl (by omega) (by omega) (fun c21 => ?_) (fun c21 => ?_)
        · refine hk F _ (fun x x0 x1 => ⟨fun q => ?_, fun q => (h3 x x0 x1).2 (by omega)⟩)
          by_cases c : x = y
          · subst c
            exact LV_congr (fun t => wyp_ge hn1 (by omega) (fun z => by rw [ha]; omega)) h4
          · exact (h3 x x0 x1).1 (by omega)
        · have h9 := (h3 (y - ((p : Int) + 1) * a) (by omega) (by omega)).2 (by omega)
          have b2 : 0 ≤ F (y - ((p : Int) + 1) * a) ∧ F (y - ((p : Int) + 1) * a) ≤ 1048576 := LV_bd (by omega) h9 (fun t q => by have := wy_le k (fun i i0 i1 => hn1 i i0 (by omega)) _ _ q; omega)
          refine gx_aload0 (q := 25) hG d_Su_takeThrice_24 rfl ?_
          refine gx_get (q := 28) hG f_Su_18 hpSu rfl d_Su_takeThrice_25 rfl ?_
          refine gx_iload3 (q := 29) hG d_Su_takeThrice_28 rfl ?_
          refine gx_aload0 (q := 30) hG d_Su_takeThrice_29 rfl ?_
          refine gx_get (q := 33) hG f_Su_18 hpSu rfl d_Su_takeThrice_30 rfl ?_
          refine gx_iload3 (q := 34) hG d_Su_takeThrice_33 rfl ?_
          refine gw_iald (q := 35) hG rfl (by omega) (by omega) d_Su_takeThrice_34 rfl ?_
          rw [wc_eq]
          refine gx_aload0 (q := 36) hG d_Su_takeThrice_35 rfl ?_
          refine gx_get (q := 39) hG f_Su_18 hpSu rfl d_Su_takeThrice_36 rfl ?_
          refine gx_iload3 (q := 40) hG d_Su_takeThrice_39 rfl ?_
          refine gx_iload4 (q := 42) hG d_Su_takeThrice_40 rfl ?_
          refine gx_iload1 (q := 43) hG d_Su_takeThrice_42 rfl ?_
          refine gx_imul (q := 44) hG d_Su_takeThrice_43 rfl ?_
          refine gx_isub (q := 45) hG d_Su_takeThrice_44 rfl ?_
          refine gw_iald (q := 46) hG rfl (by omega) (by omega) d_Su_takeThrice_45 rfl ?_
          rw [wc_eq]
          refine gx_iload4 (q := 48) hG d_Su_takeThrice_46 rfl ?_
          refine gx_iadd (q := 49) hG d_Su_takeThrice_48 rfl ?_
          refine gw_S2X (q := 52) hG l_Su_80 c_Ma_min (ev_Ma_min (by first | assumption | omega) (by first | assumption | omega)) (by decide) (Nat.le_of_ble_eq_true rfl) d_Su_takeThrice_49 rfl (by decide) ?_
          refine gw_iast (q := 53) hG rfl (by omega) (by omega) d_Su_takeThrice_52 rfl ?_
          rw [wu_wcc]
          refine gx_iinc4 (q := 56) hG d_Su_takeThrice_53 rfl rfl ?_
          refine gx_goto (tgt := 10) hG d_Su_takeThrice_56 rfl ?_
          have e := ih (p + 1) y (up F y (min (F y) (F (y - ((p : Int) + 1) * a) + ((p : Int) + 1)))) (by omega) h2 h2' (fun x x0 x1 => ⟨fun q => by rw [up_ne (by omega)]; exact (h3 x x0 x1).1 q, fun q => by rw [up_ne (by omega)]; exact (h3 x x0 x1).2 q⟩) (by rw [up_eq]; refine LV_congr (fun t => wyp_q.symm) ?_; rw [ha]; exact LV_min (d := p + 1) (by omega) h4 h9 (fun t q => by have := wyp_le hn1 q; omega) (fun t q => by have := wy_le k (fun i i0 i1 => hn1 i i0 (by omega)) _ _ q; omega) (by omega)) hk
          rw [show ((p + 1 : Nat) : Int) + 1 = (p : Int) + 1 + 1 by omega] at e
          exact e
  have L : ∀ (j : Nat) (y : Int) (F : Int → Int) (o : Option Value), (y + 1 = a + j ∨ (j = 0 ∧ y < a)) → (0 ≤ y ∧ y ≤ v) → one1 [o] 0 = true → FEX num k y F v → G 2 [some (Vr 19), some (Vi a), some (Vi v), some (Vi y), o] [] 102 (hp (wc w 22 F)) := by
    intro j
    induction j with
    | zero =>
      intro y F o h1 h2 ho h3
      refine gx_iload3 (q := 3) hG d_Su_takeThrice_2 rfl ?_
      refine gx_iload1 (q := 4) hG d_Su_takeThrice_3 rfl ?_
      refine gx_icmp_lt (tgt := 65) (q := 7) hG d_Su_takeThrice_4 rfl rfl (by omega) (by omega) (fun c4 => ?_) (fun c4 => ?_)
      · refine gx_return hG d_Su_takeThrice_65 rfl rfl ?_
        refine ⟨_, rfl, rfl, F, rfl, fun x x0 x1 => ?_⟩
        by_cases c : y < x
        · exact (h3 x x0 x1).1 c
        · exact LV_congr (fun t => (wy_low hn1 (by omega)).symm) ((h3 x x0 x1).2 (by omega))
      · exfalso; omega
    | succ j ih =>
      intro y F o h1 h2 ho h3
      have K : ∀ (F' : Int → Int) (p' : Int), FEX num k (y - 1) F' v → G 59 [some (Vr 19), some (Vi a), some (Vi v), some (Vi y), some (Vi p')] [] 102 (hp (wc w 22 F')) := by
        intro F' p' q
        refine gx_iinc3 (q := 62) hG d_Su_takeThrice_59 rfl rfl ?_
        refine gx_goto (tgt := 2) hG d_Su_takeThrice_62 rfl ?_
        exact ih (y - 1) F' _ (by omega) (by omega) rfl q
      refine gx_iload3 (q := 3) hG d_Su_takeThrice_2 rfl ?_
      refine gx_iload1 (q := 4) hG d_Su_takeThrice_3 rfl ?_
      refine gx_icmp_lt (tgt := 65) (q := 7) hG d_Su_takeThrice_4 rfl rfl (by omega) (by omega) (fun c4 => ?_) (fun c4 => ?_)
      · exfalso; omega
      · refine gx_iconst (q := 8) hG d_Su_takeThrice_7 rfl ?_
        refine gx_istore4 (q := 10) hG d_Su_takeThrice_8 rfl rfl ?_
        exact I 3 0 y F (by omega) (by omega) (by omega) (fun x x0 x1 => ⟨fun q => (h3 x x0 x1).1 q, fun q => (h3 x x0 x1).2 (by omega)⟩) (LV_congr (fun t => wyp_0.symm) ((h3 y (by omega) (by omega)).2 (by omega))) K
  have e0 : w = wc w 22 F0 := by
    funext b
    show w b = if b = 22 then F0 else w b
    split
    · rename_i h
      rw [h, hw]
    · rfl
  refine gx_iload2 (q := 1) hG d_Su_takeThrice_0 rfl ?_
  refine gx_istore3 (q := 2) hG d_Su_takeThrice_1 rfl rfl ?_
  rw [e0]
  exact L (v + 1 - a).toNat v F0 none (by omega) (by omega) rfl (fun x x0 x1 => ⟨fun q => by omega, fun _ => hF x x0 x1⟩)
theorem ev_Su_fewest {w : Mem} {v : Int} (h : GI w 3) (hl : w 3 2 ≠ 1) (hv : 1 ≤ v ∧ v ≤ 4000) : EvI y_Su_fewest b_Su_fewest 4 (some .int) (3) [Vr 19, Vr 3, Vi v] w (fun z w' => LV 1048576 (wy (w 3 2) (w 4) (w 3 1).toNat v) z ∧ ∃ F, w' = wc w 22 F) := by
  refine Ev.mk (isI := false) (by decide +kernel) nofun (Nat.le_of_ble_eq_true rfl) (fun G hG => ?_)
  show G 0 [some (Vr 19), some (Vr 3), some (Vi v), none] [] 102 (hp w)
  have hs := h.2.1
  have hn := h.2.2.2.1
  have L : ∀ (j i : Nat) (F : Int → Int), (i : Int) + j = w 3 1 → (∀ x : Int, 0 ≤ x → x ≤ v → LV 1048576 (wy (w 3 2) (w 4) i x) (F x)) → G 18 [some (Vr 19), some (Vr 3), some (Vi v), some (Vi (i : Int))] [] 102 (hp (wc w 22 F)) := by
    intro j
    induction j with
    | zero =>
      intro i F h1 h2
      have e3 : wc w 22 F 3 1 = w 3 1 := by rw [wc_ne (by omega)]
      have b1 := LV_bd (by omega) (h2 v (by omega) (by omega)) (fun t q => by have := wy_le i (fun i2 i0 i1 => (hn i2 i0 (by omega)).1) _ _ q; omega)
      refine gx_iload3 (q := 19) hG d_Su_fewest_18 rfl ?_
      refine gx_aload1 (q := 20) hG d_Su_fewest_19 rfl ?_
      refine gx_get (q := 23) hG f_Su_50 (hpGame (by unfold isG; omega)) rfl d_Su_fewest_20 rfl ?_
      rw [e3]
      refine gx_icmp_ge (tgt := 65) (q := 26) hG d_Su_fewest_23 rfl rfl (by omega) (by omega) (fun c23 => ?_) (fun c23 => ?_)
      · refine gx_aload0 (q := 66) hG d_Su_fewest_65 rfl ?_
        refine gx_get (q := 69) hG f_Su_18 hpSu rfl d_Su_fewest_66 rfl ?_
        refine gx_iload2 (q := 70) hG d_Su_fewest_69 rfl ?_
        refine gw_iald (q := 71) hG rfl (by omega) (by omega) d_Su_fewest_70 rfl ?_
        rw [wc_eq]
        refine gx_ireturn hG d_Su_fewest_71 rfl rfl ?_
        exact ⟨_, rfl, _, rfl, by rw [show (w 3 1).toNat = i by omega]; exact h2 v (by omega) (by omega), F, rfl⟩
      · exfalso; omega
    | succ j ih =>
      intro i F h1 h2
      have e3 : wc w 22 F 3 1 = w 3 1 := by rw [wc_ne (by omega)]
      have e2 : wc w 22 F 3 2 = w 3 2 := by rw [wc_ne (by omega)]
      have e4 : wc w 22 F 4 = w 4 := by rw [wc_ne (by omega)]
      have e4' : wc w 22 F (3 + 1) i = w 4 i := by rw [show (3 : Int) + 1 = 4 by omega, e4]
      have hlw := h.2.2.1
      have hn2 : ∀ x : Int, 0 ≤ x → x < i + 1 → 1 ≤ w 4 x ∧ w 4 x ≤ 60 := fun x x0 x1 => hn x x0 (by omega)
      refine gx_iload3 (q := 19) hG d_Su_fewest_18 rfl ?_
      refine gx_aload1 (q := 20) hG d_Su_fewest_19 rfl ?_
      refine gx_get (q := 23) hG f_Su_50 (hpGame (by unfold isG; omega)) rfl d_Su_fewest_20 rfl ?_
      rw [e3]
      refine gx_icmp_ge (tgt := 65) (q := 26) hG d_Su_fewest_23 rfl rfl (by omega) (by omega) (fun c23 => ?_) (fun c23 => ?_)
      · exfalso; omega
      · refine gx_aload1 (q := 27) hG d_Su_fewest_26 rfl ?_
        refine gx_get (q := 30) hG f_Su_41 (hpGame (by unfold isG; omega)) rfl d_Su_fewest_27 rfl ?_
        rw [e2]
        refine gx_iconst (q := 31) hG d_Su_fewest_30 rfl ?_
        refine gx_icmp_ne (tgt := 48) (q := 34) hG d_Su_fewest_31 rfl rfl (by omega) (by omega) (fun c31 => ?_) (fun c31 => ?_)
        · refine gx_aload0 (q := 49) hG d_Su_fewest_48 rfl ?_
          refine gx_aload1 (q := 50) hG d_Su_fewest_49 rfl ?_
          refine gx_get (q := 53) hG f_Su_53 (hpGame (by unfold isG; omega)) rfl d_Su_fewest_50 rfl ?_
          refine gx_iload3 (q := 54) hG d_Su_fewest_53 rfl ?_
          refine gw_iald (q := 55) hG rfl (by omega) (by omega) d_Su_fewest_54 rfl ?_
          rw [e4']
          refine gx_iload2 (q := 56) hG d_Su_fewest_55 rfl ?_
          refine gw_V2V (q := 59) hG l_Su_74 c_Su_takeOften (ev_Su_takeOften (law := w 3 2) (by omega) hv hn2 rfl h2 wc_eq) hpSu rfl (by decide) (Nat.le_of_ble_eq_true rfl) d_Su_fewest_56 rfl (by decide) (fun w1 h42 => ?_)
          obtain ⟨F2, rfl, hF2⟩ := h42
          rw [wc_wc]
          refine gx_iinc3 (q := 62) hG d_Su_fewest_59 rfl rfl ?_
          refine gx_goto (tgt := 18) hG d_Su_fewest_62 rfl ?_
          first
            | exact ih (i + 1) F2 (by omega) hF2
            | exact ih (i + 1) F2 (by omega) (by rw [show w 3 2 = 2 by omega]; exact hF2)
        · refine gx_aload0 (q := 35) hG d_Su_fewest_34 rfl ?_
          refine gx_aload1 (q := 36) hG d_Su_fewest_35 rfl ?_
          refine gx_get (q := 39) hG f_Su_53 (hpGame (by unfold isG; omega)) rfl d_Su_fewest_36 rfl ?_
          refine gx_iload3 (q := 40) hG d_Su_fewest_39 rfl ?_
          refine gw_iald (q := 41) hG rfl (by omega) (by omega) d_Su_fewest_40 rfl ?_
          rw [e4']
          refine gx_iload2 (q := 42) hG d_Su_fewest_41 rfl ?_
          refine gw_V2V (q := 45) hG l_Su_70 c_Su_takeThrice (ev_Su_takeThrice hv hn2 rfl (by rw [show w 3 2 = 2 by omega] at h2; exact h2) wc_eq) hpSu rfl (by decide) (Nat.le_of_ble_eq_true rfl) d_Su_fewest_42 rfl (by decide) (fun w1 h42 => ?_)
          obtain ⟨F2, rfl, hF2⟩ := h42
          rw [wc_wc]
          refine gx_goto (tgt := 59) hG d_Su_fewest_45 rfl ?_
          refine gx_iinc3 (q := 62) hG d_Su_fewest_59 rfl rfl ?_
          refine gx_goto (tgt := 18) hG d_Su_fewest_62 rfl ?_
          first
            | exact ih (i + 1) F2 (by omega) hF2
            | exact ih (i + 1) F2 (by omega) (by rw [show w 3 2 = 2 by omega]; exact hF2)
  have eb : ∀ F, wu (wc w 22 F) 22 0 0 = wc w 22 (up F 0 0) := fun F => wu_wcc
  refine gx_aload0 (q := 1) hG d_Su_fewest_0 rfl ?_
  refine gx_get (q := 4) hG f_Su_18 hpSu rfl d_Su_fewest_1 rfl ?_
  refine gx_ldc (q := 6) hG (1048576) k_Su_34 d_Su_fewest_4 rfl rfl ?_
  refine gw_S2V (q := 9) hG l_Su_35 c_Ar_fillI (ev_Ar_fillI (N := 4001) rfl) (by decide) (Nat.le_of_ble_eq_true rfl) d_Su_fewest_6 rfl (by decide) (fun w1 h6 => ?_)
  rw [h6]
  refine gx_aload0 (q := 10) hG d_Su_fewest_9 rfl ?_
  refine gx_get (q := 13) hG f_Su_18 hpSu rfl d_Su_fewest_10 rfl ?_
  refine gx_iconst (q := 14) hG d_Su_fewest_13 rfl ?_
  refine gx_iconst (q := 15) hG d_Su_fewest_14 rfl ?_
  refine gw_iast (q := 16) hG rfl (by omega) (by omega) d_Su_fewest_15 rfl ?_
  rw [eb]
  refine gx_iconst (q := 17) hG d_Su_fewest_16 rfl ?_
  refine gx_istore3 (q := 18) hG d_Su_fewest_17 rfl rfl ?_
  refine L (w 3 1).toNat 0 _ (by omega) (fun x x0 x1 => ?_)
  unfold up fillA
  by_cases c : x = 0
  · rw [if_pos c]
    exact Or.inl ⟨0, rfl, ⟨c, rfl⟩, fun u hu => by omega⟩
  · rw [if_neg c, if_pos (by omega)]
    exact Or.inr ⟨rfl, fun u q => c q.1⟩
noncomputable def fewS (s : Sta) (v : Int) : Int := if s 4 0 = 1 then -9 else if fewZ (wy (s 4 0) (s 5) (s 4 1).toNat v) < 99999 then fewZ (wy (s 4 0) (s 5) (s 4 1).toNat v) else -9
noncomputable def sp_had (s : Sta) (v : Int) : Int × Sta := if ¬ (1 ≤ v ∧ v ≤ 4000) then (-1, s) else (bi (hadS s v), ss s 4 3 (fewS s v))
theorem wy_congr {law : Int} {num num' : Int → Int} : ∀ k : Nat, (∀ i : Int, 0 ≤ i → i < k → num i = num' i) → ∀ v t, wy law num k v t ↔ wy law num' k v t
  | 0, _, _, _ => Iff.rfl
  | k + 1, h, v, t => by
    unfold wy
    have e := h k (by omega) (by omega)
    constructor
    · rintro ⟨j, h1, h2, h3⟩
      exact ⟨j, h1, h2, by rw [← e]; exact (wy_congr k (fun i a b => h i a (by omega)) _ _).mp h3⟩
    · rintro ⟨j, h1, h2, h3⟩
      exact ⟨j, h1, h2, by rw [e]; exact (wy_congr k (fun i a b => h i a (by omega)) _ _).mpr h3⟩
/-- what had() tells, out of a table's number -/
theorem had_tell {B law : Int} (hB : 5000 ≤ B) (hl : law ≠ 1) {num : Int → Int} {k : Nat} {v z : Int} (hn : ∀ i : Int, 0 ≤ i → i < k → 1 ≤ num i) (hv : v ≤ 4000) (h : LV B (wy law num k v) z) : (z < B ↔ rch law num k v) ∧ (if z < B then z else -9) = (if fewZ (wy law num k v) < 99999 then fewZ (wy law num k v) else -9) := by
  have hb : ∀ t, wy law num k v t → t ≤ 4000 := fun t q => by have := wy_le k hn _ _ q; omega
  obtain ⟨a1, a2, a3⟩ := LV_chg hB h hb
  refine ⟨?_, ?_⟩
  · rw [a1, ← rc_wy]
    unfold rch
    exact ⟨fun q => Or.inr ⟨hl, q⟩, fun q => q.elim (fun q => absurd q.1 hl) (fun q => q.2)⟩
  · by_cases c : z < B
    · have b := LV_bd hB h hb
      rw [if_pos c, a2 c]
      rcases h with ⟨t, h1, h2, h3⟩ | ⟨h1, h2⟩
      · have := hb t h2
        rw [if_pos (by omega)]
      · omega
    · rw [if_neg c, a3 c, if_neg (by omega)]
theorem numX {w : Mem} : ∀ i : Int, 0 ≤ i → i < ((w 3 1).toNat : Int) → w 4 i = aX w 5 i := fun i i0 i1 => (aX_at5 ⟨i0, by omega⟩).symm
theorem numM {w : Mem} : ∀ i : Int, 0 ≤ i → i < ((w 76 14).toNat : Int) → w 85 i = aM w 5 i := fun i i0 i1 => (aM_at5 ⟨i0, by omega⟩).symm
theorem fewX {w : Mem} {v : Int} : fewZ (wy (w 3 2) (w 4) (w 3 1).toNat v) = fewZ (wy (aX w 4 0) (aX w 5) (aX w 4 1).toNat v) := by
  congr 1
  funext t
  exact propext (wy_congr _ numX v t)
theorem fewM {w : Mem} {v : Int} : fewZ (wy (w 76 11) (w 85) (w 76 14).toNat v) = fewZ (wy (aM w 4 0) (aM w 5) (aM w 4 1).toNat v) := by
  congr 1
  funext t
  exact propext (wy_congr _ numM v t)
theorem rch1_pos {num : Int → Int} {k : Nat} {v : Int} (hv : 1 ≤ v) : rch 1 num k v ↔ (0 < gN num k ∧ (gN num k : Int) ∣ v) := by
  unfold rch
  constructor
  · rintro (⟨-, h | h⟩ | ⟨h, -⟩)
    · omega
    · exact h
    · exact absurd rfl h
  · exact fun h => Or.inl ⟨rfl, Or.inr h⟩
theorem ev_X_had {w : Mem} {v : Int} (hO : OK (aX w)) (hj : XJ w) (hv : R3 v) : EvI y_X_had b_X_had 3 (some .int) (4) [Vr 0, Vi v] w (PX w (sp_had (aX w) v)) := by
  refine Ev.mk (isI := false) (by decide +kernel) nofun (Nat.le_of_ble_eq_true rfl) (fun G hG => ?_)
  show G 0 [some (Vr 0), some (Vi v), none] [] 102 (hp w)
  have hg := hO.gi hj
  have hn1 : ∀ i : Int, 0 ≤ i → i < ((w 3 1).toNat : Int) → 1 ≤ w 4 i := fun i i0 i1 => (hg.2.2.2.1 i i0 (by omega)).1
  have hlw := hg.2.2.1
  have hgl := gN_le (num := w 4) (w 3 1).toNat (fun i i0 i1 => hg.2.2.2.1 i i0 (by omega))
  refine gx_iload1 (q := 1) hG d_X_had_0 rfl ?_
  refine gx_iconst (q := 2) hG d_X_had_1 rfl ?_
  refine gx_icmp_lt (tgt := 12) (q := 5) hG d_X_had_2 rfl rfl (by omega) (by omega) (fun c2 => ?_) (fun c2 => ?_)
  · refine gx_iconst (q := 13) hG d_X_had_12 rfl ?_
    refine gx_ireturn hG d_X_had_13 rfl rfl ?_
    refine ⟨_, rfl, _, rfl, ?_⟩
    unfold sp_had; rw [if_pos (by omega)]; exact PX_id hj
  · refine gx_iload1 (q := 6) hG d_X_had_5 rfl ?_
    refine gx_sipush (q := 9) hG d_X_had_6 rfl rfl ?_
    refine gx_icmp_le (tgt := 14) (q := 12) hG d_X_had_9 rfl rfl (by omega) (by omega) (fun c9 => ?_) (fun c9 => ?_)
    · refine gx_aload0 (q := 15) hG d_X_had_14 rfl ?_
      refine gx_get (q := 18) hG f_X_21 hpX rfl d_X_had_15 rfl ?_
      refine gx_get (q := 21) hG f_X_148 (hpGame (by unfold isG; omega)) rfl d_X_had_18 rfl ?_
      refine gx_iconst (q := 22) hG d_X_had_21 rfl ?_
      refine gx_icmp_ne (tgt := 55) (q := 25) hG d_X_had_22 rfl rfl (by omega) (by omega) (fun c22 => ?_) (fun c22 => ?_)
      · refine gx_aload0 (q := 56) hG d_X_had_55 rfl ?_
        refine gx_get (q := 59) hG f_X_69 hpX rfl d_X_had_56 rfl ?_
        refine gx_aload0 (q := 60) hG d_X_had_59 rfl ?_
        refine gx_get (q := 63) hG f_X_21 hpX rfl d_X_had_60 rfl ?_
        refine gx_iload1 (q := 64) hG d_X_had_63 rfl ?_
        refine gw_V2I (q := 67) hG l_X_216 c_Su_fewest (ev_Su_fewest hg (by omega) (by omega)) hpSu rfl (by decide) (Nat.le_of_ble_eq_true rfl) d_X_had_64 rfl (by decide) (fun z64 w1 h64 => ?_)
        obtain ⟨hz, F, rfl⟩ := h64
        have hb := LV_bd (by omega) hz (fun t q => by have := wy_le _ hn1 _ _ q; omega)
        have ht := had_tell (by omega) (by omega) hn1 (by omega) hz
        rw [fewX] at ht
        have hs : SX w (wc w 22 F) := SX_scr hj (fun b hb => wc_ne (by omega))
        refine gx_istore2 (q := 68) hG d_X_had_67 rfl rfl ?_
        refine gx_aload0 (q := 69) hG d_X_had_68 rfl ?_
        refine gx_iload2 (q := 70) hG d_X_had_69 rfl ?_
        refine gx_ldc (q := 72) hG (1048576) k_X_220 d_X_had_70 rfl rfl ?_
        refine gx_icmp_ge (tgt := 79) (q := 75) hG d_X_had_72 rfl rfl (by omega) (by omega) (fun c72 => ?_) (fun c72 => ?_)
        · refine gx_bipush (q := 81) hG d_X_had_79 rfl rfl ?_
          refine gw_puti (q := 84) hG f_X_99 hpX (Nat.le_of_ble_eq_true rfl) vfit_i (Or.inl rfl) d_X_had_81 rfl 11 rfl rfl ?_
          refine gx_iload2 (q := 85) hG d_X_had_84 rfl ?_
          refine gx_ldc (q := 87) hG (1048576) k_X_220 d_X_had_85 rfl rfl ?_
          refine gx_icmp_ge (tgt := 94) (q := 90) hG d_X_had_87 rfl rfl (by omega) (by omega) (fun c87 => ?_) (fun c87 => ?_)
          · refine gx_iconst (q := 95) hG d_X_had_94 rfl ?_
            refine gx_ireturn hG d_X_had_95 rfl rfl ?_
            refine ⟨_, rfl, _, rfl, ?_⟩
            unfold sp_had fewS; rw [if_neg (by omega), if_neg (show ¬ aX w 4 0 = 1 from c22), ← ht.2]
            have e : hadS (aX w) v ↔ z64 < 1048576 := by rw [← hadX]; exact ht.1.symm
            rw [← hs.1]
            first
              | (exfalso; omega)
              | (rw [bi_t (by rw [hs.1]; exact e.mpr (by omega)), if_pos (by omega)]; exact PX_tr hs (PX_aside hs.2.1))
              | (rw [bi_f (by rw [hs.1]; exact fun q => by have := e.mp q; omega), if_neg (by omega)]; exact PX_tr hs (PX_aside hs.2.1))
          · refine gx_iconst (q := 91) hG d_X_had_90 rfl ?_
            refine gx_goto (tgt := 95) hG d_X_had_91 rfl ?_
            refine gx_ireturn hG d_X_had_95 rfl rfl ?_
            refine ⟨_, rfl, _, rfl, ?_⟩
            unfold sp_had fewS; rw [if_neg (by omega), if_neg (show ¬ aX w 4 0 = 1 from c22), ← ht.2]
            have e : hadS (aX w) v ↔ z64 < 1048576 := by rw [← hadX]; exact ht.1.symm
            rw [← hs.1]
            first
              | (exfalso; omega)
              | (rw [bi_t (by rw [hs.1]; exact e.mpr (by omega)), if_pos (by omega)]; exact PX_tr hs (PX_aside hs.2.1))
              | (rw [bi_f (by rw [hs.1]; exact fun q => by have := e.mp q; omega), if_neg (by omega)]; exact PX_tr hs (PX_aside hs.2.1))
        · refine gx_iload2 (q := 76) hG d_X_had_75 rfl ?_
          refine gx_goto (tgt := 81) hG d_X_had_76 rfl ?_
          refine gw_puti (q := 84) hG f_X_99 hpX (Nat.le_of_ble_eq_true rfl) vfit_i (Or.inl rfl) d_X_had_81 rfl 11 rfl rfl ?_
          refine gx_iload2 (q := 85) hG d_X_had_84 rfl ?_
          refine gx_ldc (q := 87) hG (1048576) k_X_220 d_X_had_85 rfl rfl ?_
          refine gx_icmp_ge (tgt := 94) (q := 90) hG d_X_had_87 rfl rfl (by omega) (by omega) (fun c87 => ?_) (fun c87 => ?_)
          · refine gx_iconst (q := 95) hG d_X_had_94 rfl ?_
            refine gx_ireturn hG d_X_had_95 rfl rfl ?_
            refine ⟨_, rfl, _, rfl, ?_⟩
            unfold sp_had fewS; rw [if_neg (by omega), if_neg (show ¬ aX w 4 0 = 1 from c22), ← ht.2]
            have e : hadS (aX w) v ↔ z64 < 1048576 := by rw [← hadX]; exact ht.1.symm
            rw [← hs.1]
            first
              | (exfalso; omega)
              | (rw [bi_t (by rw [hs.1]; exact e.mpr (by omega)), if_pos (by omega)]; exact PX_tr hs (PX_aside hs.2.1))
              | (rw [bi_f (by rw [hs.1]; exact fun q => by have := e.mp q; omega), if_neg (by omega)]; exact PX_tr hs (PX_aside hs.2.1))
          · refine gx_iconst (q := 91) hG d_X_had_90 rfl ?_
            refine gx_goto (tgt := 95) hG d_X_had_91 rfl ?_
            refine gx_ireturn hG d_X_had_95 rfl rfl ?_
            refine ⟨_, rfl, _, rfl, ?_⟩
            unfold sp_had fewS; rw [if_neg (by omega), if_neg (show ¬ aX w 4 0 = 1 from c22), ← ht.2]
            have e : hadS (aX w) v ↔ z64 < 1048576 := by rw [← hadX]; exact ht.1.symm
            rw [← hs.1]
            first
              | (exfalso; omega)
              | (rw [bi_t (by rw [hs.1]; exact e.mpr (by omega)), if_pos (by omega)]; exact PX_tr hs (PX_aside hs.2.1))
              | (rw [bi_f (by rw [hs.1]; exact fun q => by have := e.mp q; omega), if_neg (by omega)]; exact PX_tr hs (PX_aside hs.2.1))
      · refine gx_aload0 (q := 26) hG d_X_had_25 rfl ?_
        refine gx_get (q := 29) hG f_X_21 hpX rfl d_X_had_26 rfl ?_
        refine gw_V0X (q := 32) hG l_X_213 c_Gm_divisor (ev_Gm_divisor hg.1 hg.2.1 hg.2.2.2.1) (hpGame (by unfold isG; omega)) rfl (by decide) (Nat.le_of_ble_eq_true rfl) d_X_had_29 rfl (by decide) ?_
        rw [show (3 : Int) + 1 = 4 by omega]
        refine gx_istore2 (q := 33) hG d_X_had_32 rfl rfl ?_
        refine gx_aload0 (q := 34) hG d_X_had_33 rfl ?_
        refine gx_bipush (q := 36) hG d_X_had_34 rfl rfl ?_
        refine gw_puti (q := 39) hG f_X_99 hpX (Nat.le_of_ble_eq_true rfl) vfit_i (Or.inl rfl) d_X_had_36 rfl 11 rfl rfl ?_
        refine gx_iload2 (q := 40) hG d_X_had_39 rfl ?_
        refine gx_if_le (tgt := 53) (q := 43) hG d_X_had_40 rfl rfl (by omega) (fun c40 => ?_) (fun c40 => ?_)
        · refine gx_iconst (q := 54) hG d_X_had_53 rfl ?_
          refine gx_ireturn hG d_X_had_54 rfl rfl ?_
          refine ⟨_, rfl, _, rfl, ?_⟩
          unfold sp_had fewS; rw [if_neg (by omega), if_pos (show aX w 4 0 = 1 from c22)]
          have e : hadS (aX w) v ↔ (0 < gN (w 4) (w 3 1).toNat ∧ (gN (w 4) (w 3 1).toNat : Int) ∣ v) := by
            rw [← hadX, show hd w 3 v ↔ rch (w 3 2) (w 4) (w 3 1).toNat v from Iff.rfl, c22]
            exact rch1_pos (by omega)
          first
            | (rw [bi_t (e.mpr ⟨by omega, Int.dvd_of_emod_eq_zero (by omega)⟩)]; exact PX_aside hj)
            | (rw [bi_f (fun q => by have q := (e.mp q); have := Int.emod_eq_zero_of_dvd q.2; omega)]; exact PX_aside hj)
        · refine gx_iload1 (q := 44) hG d_X_had_43 rfl ?_
          refine gx_iload2 (q := 45) hG d_X_had_44 rfl ?_
          refine gx_irem (q := 46) hG d_X_had_45 rfl (by omega) (by omega) (by omega) (by omega) ?_
          have m1 := Int.emod_nonneg v (show ((gN (w 4) (w 3 1).toNat : Nat) : Int) ≠ 0 by omega)
          have m2 := Int.emod_lt_of_pos v (show 0 < ((gN (w 4) (w 3 1).toNat : Nat) : Int) by omega)
          refine gx_if_ne (tgt := 53) (q := 49) hG d_X_had_46 rfl rfl (by omega) (fun c46 => ?_) (fun c46 => ?_)
          · refine gx_iconst (q := 54) hG d_X_had_53 rfl ?_
            refine gx_ireturn hG d_X_had_54 rfl rfl ?_
            refine ⟨_, rfl, _, rfl, ?_⟩
            unfold sp_had fewS; rw [if_neg (by omega), if_pos (show aX w 4 0 = 1 from c22)]
            have e : hadS (aX w) v ↔ (0 < gN (w 4) (w 3 1).toNat ∧ (gN (w 4) (w 3 1).toNat : Int) ∣ v) := by
              rw [← hadX, show hd w 3 v ↔ rch (w 3 2) (w 4) (w 3 1).toNat v from Iff.rfl, c22]
              exact rch1_pos (by omega)
            first
              | (rw [bi_t (e.mpr ⟨by omega, Int.dvd_of_emod_eq_zero (by omega)⟩)]; exact PX_aside hj)
              | (rw [bi_f (fun q => by have q := (e.mp q); have := Int.emod_eq_zero_of_dvd q.2; omega)]; exact PX_aside hj)
          · refine gx_iconst (q := 50) hG d_X_had_49 rfl ?_
            refine gx_goto (tgt := 54) hG d_X_had_50 rfl ?_
            refine gx_ireturn hG d_X_had_54 rfl rfl ?_
            refine ⟨_, rfl, _, rfl, ?_⟩
            unfold sp_had fewS; rw [if_neg (by omega), if_pos (show aX w 4 0 = 1 from c22)]
            have e : hadS (aX w) v ↔ (0 < gN (w 4) (w 3 1).toNat ∧ (gN (w 4) (w 3 1).toNat : Int) ∣ v) := by
              rw [← hadX, show hd w 3 v ↔ rch (w 3 2) (w 4) (w 3 1).toNat v from Iff.rfl, c22]
              exact rch1_pos (by omega)
            first
              | (rw [bi_t (e.mpr ⟨by omega, Int.dvd_of_emod_eq_zero (by omega)⟩)]; exact PX_aside hj)
              | (rw [bi_f (fun q => by have q := (e.mp q); have := Int.emod_eq_zero_of_dvd q.2; omega)]; exact PX_aside hj)
    · refine gx_iconst (q := 13) hG d_X_had_12 rfl ?_
      refine gx_ireturn hG d_X_had_13 rfl rfl ?_
      refine ⟨_, rfl, _, rfl, ?_⟩
      unfold sp_had; rw [if_pos (by omega)]; exact PX_id hj
theorem PM_aside {w : Mem} {v z : Int} : PM w (z, ss (aM w) 4 3 v) z (wu w 76 2 v) := PM_mk aM_u2 (fun b hb => wu_ne (by omega))
theorem LW_LV {P : Nat → Prop} {z : Int} (h : LW P z) : LV 99999 P z := h
theorem ev_M_had {w : Mem} {v : Int} (hO : OK (aM w)) (hv : R3 v) : EvI y_M_had b_M_had 2 (some .int) (4) [Vr 76, Vi v] w (PM w (sp_had (aM w) v)) := by
  refine Ev.mk (isI := false) (by decide +kernel) nofun (Nat.le_of_ble_eq_true rfl) (fun G hG => ?_)
  show G 0 [some (Vr 76), some (Vi v)] [] 102 (hp w)
  have hn := hO.nn
  have hl := hO.law
  have e1 : aM w 4 1 = w 76 14 := rfl
  have e0 : aM w 4 0 = w 76 11 := rfl
  rw [e1] at hn
  rw [e0] at hl
  obtain ⟨n, en⟩ : ∃ n : Nat, w 76 14 = (n : Int) := ⟨(w 76 14).toNat, by omega⟩
  have hnt : (w 76 14).toNat = n := by omega
  have hn1 : ∀ i : Int, 0 ≤ i → i < n → 1 ≤ w 85 i := fun i i0 i1 => (hO.mn i i0 (by omega)).1
  refine gx_iload1 (q := 1) hG d_M_had_0 rfl ?_
  refine gx_iconst (q := 2) hG d_M_had_1 rfl ?_
  refine gx_sipush (q := 5) hG d_M_had_2 rfl rfl ?_
  refine gw_S3X (q := 8) hG l_M_96 c_M_in (ev_M_in (by omega) (by omega) (by omega)) (by decide) (Nat.le_of_ble_eq_true rfl) d_M_had_5 rfl (by decide) ?_
  refine gx_if_ne (tgt := 13) (q := 11) hG d_M_had_8 rfl rfl (bi_R _) (fun c8 => ?_) (fun c8 => ?_)
  · have c8 := bi_ne0.mp c8
    refine gx_aload0 (q := 14) hG d_M_had_13 rfl ?_
    refine gx_aload0 (q := 15) hG d_M_had_14 rfl ?_
    refine gx_get (q := 18) hG f_M_35 hpM rfl d_M_had_15 rfl ?_
    refine gx_aload0 (q := 19) hG d_M_had_18 rfl ?_
    refine gx_get (q := 22) hG f_M_178 hpM rfl d_M_had_19 rfl ?_
    rw [en]
    refine gx_aload0 (q := 23) hG d_M_had_22 rfl ?_
    refine gx_get (q := 26) hG f_M_172 hpM rfl d_M_had_23 rfl ?_
    refine gx_iload1 (q := 27) hG d_M_had_26 rfl ?_
    refine gw_V4V (q := 30) hG l_M_131 c_M_layFew (ev_M_layFew (N := 14) rfl (by decide) (by omega) (by omega) hl (by omega) (fun i i0 i1 => hO.mn i i0 (by omega))) hpM rfl (by decide) (Nat.le_of_ble_eq_true rfl) d_M_had_27 rfl (by decide) (fun w1 h27 => ?_)
    obtain ⟨F, rfl, hF⟩ := h27
    have hb := FZ_bd (v := v) hF hn1 (by omega) (by omega)
    have hh := FZ_had (v := v) hF hn1 (by omega) (by omega)
    have he : wc w 83 F 83 v = F v := by rw [wc_eq]
    have hM := hadM (w := w) (v := v)
    rw [hnt] at hM
    have hs : SM w (wc w 83 F) := SM_83
    have el : wc w 83 F 76 11 = w 76 11 := by rw [wc_ne (by omega)]
    refine gx_aload0 (q := 31) hG d_M_had_30 rfl ?_
    refine gx_iload1 (q := 32) hG d_M_had_31 rfl ?_
    refine gw_V1X (q := 35) hG l_M_135 c_M_isHad (ev_M_isHad (by omega) (by rw [he]; omega)) hpM rfl (by decide) (Nat.le_of_ble_eq_true rfl) d_M_had_32 rfl (by decide) ?_
    refine gx_if_eq (tgt := 65) (q := 38) hG d_M_had_35 rfl rfl (bi_R _) (fun c35 => ?_) (fun c35 => ?_)
    · have c35 := bi_eq0.mp c35
      rw [he, hh, hM] at c35
      refine gx_aload0 (q := 66) hG d_M_had_65 rfl ?_
      refine gx_bipush (q := 68) hG d_M_had_66 rfl rfl ?_
      refine gx_iconst (q := 69) hG d_M_had_68 rfl ?_
      refine gw_V2I (q := 72) hG l_M_121 c_M_tells (ev_M_tells) hpM rfl (by decide) (Nat.le_of_ble_eq_true rfl) d_M_had_69 rfl (by decide) (fun z w2 h69 => ?_)
      refine gx_ireturn hG d_M_had_72 rfl rfl ?_
      refine ⟨_, rfl, _, rfl, ?_⟩
      unfold sp_had; rw [if_neg (by omega)]
      have ef : fewS (aM w) v = if w 76 11 = 1 then -9 else if F v < 99999 then F v else -9 := by
        unfold fewS
        rw [e0]
        by_cases q : w 76 11 = 1
        · rw [if_pos q, if_pos q]
        · rw [if_neg q, if_neg q]
          have ht := (had_tell (B := 99999) (by omega) q hn1 (by omega) (LW_LV (hF.1 q v (by omega) (by omega)))).2
          rw [ht, ← hnt, fewM]
          rfl
      rw [ef]
      have hM2 := hh.trans hM
      first
        | (obtain ⟨rfl, rfl⟩ := h59; rw [bi_t c35, ← hs.1, if_pos (by omega)]; exact PM_tr hs PM_aside)
        | (obtain ⟨rfl, rfl⟩ := h59; rw [bi_t c35, ← hs.1, if_neg (by omega), if_pos (hM2.mpr c35)]; exact PM_tr hs PM_aside)
        | (obtain ⟨rfl, rfl⟩ := h69; rw [bi_f c35, ← hs.1, if_neg (fun q => c35 (hM2.mp q)), show (if w 76 11 = 1 then (-9 : Int) else -9) = -9 by split <;> rfl]; exact PM_tr hs PM_aside)
    · have c35 := bi_ne0.mp c35
      rw [he, hh, hM] at c35
      refine gx_aload0 (q := 39) hG d_M_had_38 rfl ?_
      refine gx_aload0 (q := 40) hG d_M_had_39 rfl ?_
      refine gx_get (q := 43) hG f_M_172 hpM rfl d_M_had_40 rfl ?_
      rw [el]
      refine gx_iconst (q := 44) hG d_M_had_43 rfl ?_
      refine gx_icmp_ne (tgt := 52) (q := 47) hG d_M_had_44 rfl rfl (by omega) (by omega) (fun c44 => ?_) (fun c44 => ?_)
      · refine gx_aload0 (q := 53) hG d_M_had_52 rfl ?_
        refine gx_get (q := 56) hG f_M_29 hpM rfl d_M_had_53 rfl ?_
        refine gx_iload1 (q := 57) hG d_M_had_56 rfl ?_
        refine gw_iald (q := 58) hG rfl (by omega) (by omega) d_M_had_57 rfl ?_
        rw [he]
        refine gx_iconst (q := 59) hG d_M_had_58 rfl ?_
        refine gw_V2I (q := 62) hG l_M_121 c_M_tells (ev_M_tells) hpM rfl (by decide) (Nat.le_of_ble_eq_true rfl) d_M_had_59 rfl (by decide) (fun z w2 h59 => ?_)
        refine gx_goto (tgt := 72) hG d_M_had_62 rfl ?_
        refine gx_ireturn hG d_M_had_72 rfl rfl ?_
        refine ⟨_, rfl, _, rfl, ?_⟩
        unfold sp_had; rw [if_neg (by omega)]
        have ef : fewS (aM w) v = if w 76 11 = 1 then -9 else if F v < 99999 then F v else -9 := by
          unfold fewS
          rw [e0]
          by_cases q : w 76 11 = 1
          · rw [if_pos q, if_pos q]
          · rw [if_neg q, if_neg q]
            have ht := (had_tell (B := 99999) (by omega) q hn1 (by omega) (LW_LV (hF.1 q v (by omega) (by omega)))).2
            rw [ht, ← hnt, fewM]
            rfl
        rw [ef]
        have hM2 := hh.trans hM
        first
          | (obtain ⟨rfl, rfl⟩ := h59; rw [bi_t c35, ← hs.1, if_pos (by omega)]; exact PM_tr hs PM_aside)
          | (obtain ⟨rfl, rfl⟩ := h59; rw [bi_t c35, ← hs.1, if_neg (by omega), if_pos (hM2.mpr c35)]; exact PM_tr hs PM_aside)
          | (obtain ⟨rfl, rfl⟩ := h69; rw [bi_f c35, ← hs.1, if_neg (fun q => c35 (hM2.mp q)), show (if w 76 11 = 1 then (-9 : Int) else -9) = -9 by split <;> rfl]; exact PM_tr hs PM_aside)
      · refine gx_bipush (q := 49) hG d_M_had_47 rfl rfl ?_
        refine gx_goto (tgt := 58) hG d_M_had_49 rfl ?_
        refine gx_iconst (q := 59) hG d_M_had_58 rfl ?_
        refine gw_V2I (q := 62) hG l_M_121 c_M_tells (ev_M_tells) hpM rfl (by decide) (Nat.le_of_ble_eq_true rfl) d_M_had_59 rfl (by decide) (fun z w2 h59 => ?_)
        refine gx_goto (tgt := 72) hG d_M_had_62 rfl ?_
        refine gx_ireturn hG d_M_had_72 rfl rfl ?_
        refine ⟨_, rfl, _, rfl, ?_⟩
        unfold sp_had; rw [if_neg (by omega)]
        have ef : fewS (aM w) v = if w 76 11 = 1 then -9 else if F v < 99999 then F v else -9 := by
          unfold fewS
          rw [e0]
          by_cases q : w 76 11 = 1
          · rw [if_pos q, if_pos q]
          · rw [if_neg q, if_neg q]
            have ht := (had_tell (B := 99999) (by omega) q hn1 (by omega) (LW_LV (hF.1 q v (by omega) (by omega)))).2
            rw [ht, ← hnt, fewM]
            rfl
        rw [ef]
        have hM2 := hh.trans hM
        first
          | (obtain ⟨rfl, rfl⟩ := h59; rw [bi_t c35, ← hs.1, if_pos (by omega)]; exact PM_tr hs PM_aside)
          | (obtain ⟨rfl, rfl⟩ := h59; rw [bi_t c35, ← hs.1, if_neg (by omega), if_pos (hM2.mpr c35)]; exact PM_tr hs PM_aside)
          | (obtain ⟨rfl, rfl⟩ := h69; rw [bi_f c35, ← hs.1, if_neg (fun q => c35 (hM2.mp q)), show (if w 76 11 = 1 then (-9 : Int) else -9) = -9 by split <;> rfl]; exact PM_tr hs PM_aside)
  · have c8 := bi_eq0.mp c8
    refine gx_iconst (q := 12) hG d_M_had_11 rfl ?_
    refine gx_ireturn hG d_M_had_12 rfl rfl ?_
    refine ⟨_, rfl, _, rfl, ?_⟩
    unfold sp_had; rw [if_pos (by omega)]; exact PM_id

