/-! part 46: the reference's table of the fewest -/
theorem ev_M_divisor {w : Mem} {x y : Nat} (hx : x ≤ 2147483647) (hy : y ≤ 60) : EvX y_M_divisor b_M_divisor 5 (some .int) (1) [Vi (x : Int), Vi (y : Int)] w (Vi (Nat.gcd x y : Nat)) := by
  refine Ev.mk (isI := false) (by decide +kernel) nofun (Nat.le_of_ble_eq_true rfl) (fun G hG => ?_)
  show G 0 [some (Vi (x : Int)), some (Vi (y : Int)), none, none, none] [] 102 (hp w)
  refine gx_iload0 (q := 1) hG d_M_divisor_0 rfl ?_
  refine gx_istore2 (q := 2) hG d_M_divisor_1 rfl rfl ?_
  refine gx_iload1 (q := 3) hG d_M_divisor_2 rfl ?_
  refine gx_istore3 (q := 4) hG d_M_divisor_3 rfl rfl ?_
  skip
  have L : ∀ (j : Nat) (x1 y1 : Nat) (o5 : Option Value), x1 ≤ 2147483647 → y1 < j → y1 ≤ 60 → Nat.gcd x1 y1 = Nat.gcd x y → one1 [o5] 0 = true → G 4 [some (Vi (x : Int)), some (Vi (y : Int)), some (Vi (x1 : Int)), some (Vi (y1 : Int)), o5] [] 102 (hp w) := by
    intro j
    induction j with
    | zero => intro x1 y1 o5 h1 h2; omega
    | succ j ih =>
      intro x1 y1 o5 h2 h3 h3' h4 h5
      refine gx_iload3 (q := 5) hG d_M_divisor_4 rfl ?_
      refine gx_if_eq (tgt := 21) (q := 8) hG d_M_divisor_5 rfl rfl (by omega) (fun c5 => ?_) (fun c5 => ?_)
      · refine gx_iload2 (q := 22) hG d_M_divisor_21 rfl ?_
        refine gx_ireturn hG d_M_divisor_22 rfl rfl ?_
        exact ⟨w, rfl, by rw [← h4, show y1 = 0 by omega, Nat.gcd_zero_right], rfl⟩
      · refine gx_iload2 (q := 9) hG d_M_divisor_8 rfl ?_
        refine gx_iload3 (q := 10) hG d_M_divisor_9 rfl ?_
        refine gx_irem (q := 11) hG d_M_divisor_10 rfl (by omega) (by omega) (by omega) (by omega) ?_
        refine gx_istore4 (q := 13) hG d_M_divisor_11 rfl rfl ?_
        refine gx_iload3 (q := 14) hG d_M_divisor_13 rfl ?_
        refine gx_istore2 (q := 15) hG d_M_divisor_14 rfl rfl ?_
        refine gx_iload4 (q := 17) hG d_M_divisor_15 rfl ?_
        refine gx_istore3 (q := 18) hG d_M_divisor_17 rfl rfl ?_
        refine gx_goto (tgt := 4) hG d_M_divisor_18 rfl ?_
        exact ih y1 (x1 % y1) _ (by omega) (by have := Nat.mod_lt x1 (show y1 > 0 by omega); omega) (by have := Nat.mod_lt x1 (show y1 > 0 by omega); omega) (by rw [← h4]; exact (gcd_step (by omega)).symm) rfl
  exact L 61 x y none hx (by omega) hy rfl rfl
theorem ev_M_lesser {w : Mem} {x y : Int} (hx : R3 x) (hy : R3 y) : EvX y_M_lesser b_M_lesser 2 (some .int) (1) [Vi x, Vi y] w (Vi (if x < y then x else y)) := by
  refine Ev.mk (isI := false) (by decide +kernel) nofun (Nat.le_of_ble_eq_true rfl) (fun G hG => ?_)
  show G 0 [some (Vi x), some (Vi y)] [] 102 (hp w)
  refine gx_iload0 (q := 1) hG d_M_lesser_0 rfl ?_
  refine gx_iload1 (q := 2) hG d_M_lesser_1 rfl ?_
  refine gx_icmp_ge (tgt := 9) (q := 5) hG d_M_lesser_2 rfl rfl (by omega) (by omega) (fun c2 => ?_) (fun c2 => ?_)
  · refine gx_iload1 (q := 10) hG d_M_lesser_9 rfl ?_
    refine gx_ireturn hG d_M_lesser_10 rfl rfl ?_
    first
      | exact ⟨w, rfl, by rw [if_pos (by omega)], rfl⟩
      | exact ⟨w, rfl, by rw [if_neg (by omega)], rfl⟩
  · refine gx_iload0 (q := 6) hG d_M_lesser_5 rfl ?_
    refine gx_goto (tgt := 10) hG d_M_lesser_6 rfl ?_
    refine gx_ireturn hG d_M_lesser_10 rfl rfl ?_
    first
      | exact ⟨w, rfl, by rw [if_pos (by omega)], rfl⟩
      | exact ⟨w, rfl, by rw [if_neg (by omega)], rfl⟩
theorem wu_wcc {w : Mem} {a i z : Int} {F : Int → Int} : wu (wc w a F) a i z = wc w a (up F i z) := by
  funext b j
  rw [wu_get, wc_get, wc_get]
  unfold up
  by_cases h : b = a
  · by_cases h2 : j = i
    · rw [if_pos ⟨h, h2⟩, if_pos h, if_pos h2]
    · rw [if_neg (fun q => h2 q.2), if_pos h, if_pos h, if_neg h2]
  · rw [if_neg (fun q => h q.1), if_neg h, if_neg h]
theorem LW_bd {P : Nat → Prop} {z : Int} (h : LW P z) (hb : ∀ t, P t → t ≤ 4000) : 0 ≤ z ∧ z ≤ 99999 := by
  rcases h with ⟨t, h1, h2, h3⟩ | ⟨h1, h2⟩
  · have := hb t h2
    omega
  · omega
/-- what the table is after k numbers -/
def FB (law : Int) (num : Int → Int) (k : Nat) (F : Int → Int) (top : Int) : Prop := (law ≠ 1 → FT (wy law num k) F top) ∧ (law = 1 → F 0 = 0)
def FC (num : Int → Int) (k : Nat) (x : Int) (F : Int → Int) (top : Int) : Prop := ∀ v : Int, 0 ≤ v → v ≤ top → (v < x → LW (wy 0 num (k + 1) v) (F v)) ∧ (x ≤ v → LW (wy 0 num k v) (F v))
def FE (num : Int → Int) (k p : Nat) (x : Int) (F : Int → Int) (top : Int) : Prop := ∀ v : Int, 0 ≤ v → v ≤ top → (x < v → LW (wyp 2 num k (p + 1) v) (F v)) ∧ (v ≤ x → LW (wyp 2 num k p v) (F v))
/-- what it is at the end -/
def FZ (law : Int) (num : Int → Int) (k : Nat) (F : Int → Int) (top : Int) : Prop := (law ≠ 1 → FT (wy law num k) F top) ∧ (law = 1 → F 0 = 0 ∧ ∀ v : Int, 1 ≤ v → v ≤ top → F v = @ite _ (0 < gN num k ∧ (gN num k : Int) ∣ v) (Classical.propDecidable _) 0 99999)
theorem FC_step {num : Int → Int} {k : Nat} {x a top : Int} {F : Int → Int} (hn : ∀ i : Int, 0 ≤ i → i < k + 1 → 1 ≤ num i) (ha : num k = a) (hx : a ≤ x) (ht : top ≤ 4000) (hxt : x ≤ top) (h : FC num k x F top) : FC num k (x + 1) (up F x (if F x < F (x - a) + 1 then F x else F (x - a) + 1)) top := by
  have ha1 := hn k (by omega) (by omega)
  have e := FT_up (law := 0) (top := top) (F := F) (by decide) hn ha hx ht (fun v v0 v1 => (h v v0 (by omega)).1 v1) ((h x (by omega) hxt).2 (by omega)) hxt
  intro v v0 v1
  unfold up
  by_cases c : v = x
  · rw [if_pos c, c]
    exact ⟨fun _ => e, fun q => by omega⟩
  · rw [if_neg c]
    exact ⟨fun q => (h v v0 v1).1 (by omega), fun q => (h v v0 v1).2 (by omega)⟩
theorem FE_step {num : Int → Int} {k p : Nat} {x a top : Int} {F : Int → Int} (hn : ∀ i : Int, 0 ≤ i → i < k + 1 → 1 ≤ num i) (ha : num k = a) (hx : a ≤ x) (ht : top ≤ 4000) (hxt : x ≤ top) (h : FE num k p x F top) : FE num k p (x - 1) (up F x (if F x < F (x - a) + 1 then F x else F (x - a) + 1)) top := by
  have ha1 := hn k (by omega) (by omega)
  have e := FT_down (top := top) (F := F) hn ha hx ht ((h x (by omega) hxt).2 (by omega)) ((h (x - a) (by omega) (by omega)).2 (by omega)) hxt
  intro v v0 v1
  unfold up
  by_cases c : v = x
  · rw [if_pos c, c]
    exact ⟨fun _ => e, fun q => by omega⟩
  · rw [if_neg c]
    exact ⟨fun q => (h v v0 v1).1 (by omega), fun q => (h v v0 v1).2 (by omega)⟩
theorem ev_M_layFew {w : Mem} {x law top : Int} {n N : Nat} (hs : shp x = some (0, N)) (hx : x ≠ 83) (hnN : n ≤ N) (hn14 : n ≤ 14) (hl : law = 0 ∨ law = 1 ∨ law = 2) (ht : 1 ≤ top ∧ top ≤ 4000) (hn : ∀ i : Int, 0 ≤ i → i < n → 1 ≤ w x i ∧ w x i ≤ 60) : EvV y_M_layFew b_M_layFew 10 none (2) [Vr 76, Vr x, Vi (n : Int), Vi law, Vi top] w (fun w' => ∃ F, w' = wc w 83 F ∧ FZ law (w x) n F top) := by
  refine Ev.mk (isI := false) (by decide +kernel) nofun (Nat.le_of_ble_eq_true rfl) (fun G hG => ?_)
  show G 0 [some (Vr 76), some (Vr x), some (Vi (n : Int)), some (Vi law), some (Vi top), none, none, none, none, none] [] 102 (hp w)
  have hN := shp_le hs
  have Z : ∀ (j k : Nat) (g : Nat) (F : Int → Int) (o7 o8 o9 : Option Value), (k : Int) + j = top → g = gN (w x) n → FB law (w x) n F top → (law = 1 → ∀ v : Int, 1 ≤ v → v ≤ top → F v = if v ≤ k then @ite _ (0 < gN (w x) n ∧ (gN (w x) n : Int) ∣ v) (Classical.propDecidable _) 0 99999 else 99999) → G 184 [some (Vr 76), some (Vr x), some (Vi (n : Int)), some (Vi law), some (Vi top), some (Vi (g : Int)), some (Vi ((k : Int) + 1)), o7, o8, o9] [] 102 (hp (wc w 83 F)) := by
    intro j
    induction j with
    | zero =>
      intro k g F o7 o8 o9 h1 h2 h3 h4
      refine gx_iload6 (q := 186) hG d_M_layFew_184 rfl ?_
      refine gx_iload4 (q := 188) hG d_M_layFew_186 rfl ?_
      refine gx_icmp_gt (tgt := 228) (q := 191) hG d_M_layFew_188 rfl rfl (by omega) (by omega) (fun c188 => ?_) (fun c188 => ?_)
      · refine gx_return hG d_M_layFew_228 rfl rfl ?_
        exact ⟨_, rfl, rfl, F, rfl, h3.1, fun q => ⟨h3.2 q, fun v v0 v1 => by rw [h4 q v v0 v1, if_pos (by omega)]⟩⟩
      · exfalso; omega
    | succ j ih =>
      intro k g F o7 o8 o9 h1 h2 h3 h4
      have hg := gN_le (num := w x) n hn
      have fin : law ≠ 1 ∨ g = 0 → FZ law (w x) n F top := fun q => ⟨h3.1, fun q1 => ⟨h3.2 q1, fun v v0 v1 => by
        have q2 : gN (w x) n = 0 := by omega
        rw [h4 q1 v v0 v1, if_neg (fun q => by omega : ¬ (0 < gN (w x) n ∧ _))]
        split <;> rfl⟩⟩
      have nxt : ∀ z : Int, law = 1 → 0 < g → (z = @ite _ (0 < gN (w x) n ∧ (gN (w x) n : Int) ∣ ((k : Int) + 1)) (Classical.propDecidable _) 0 99999) → FB law (w x) n (up F ((k : Int) + 1) z) top ∧ (law = 1 → ∀ v : Int, 1 ≤ v → v ≤ top → up F ((k : Int) + 1) z v = if v ≤ (k + 1 : Nat) then @ite _ (0 < gN (w x) n ∧ (gN (w x) n : Int) ∣ v) (Classical.propDecidable _) 0 99999 else 99999) := by
        intro z q1 q2 q3
        refine ⟨⟨fun q => absurd q1 q, fun _ => ?_⟩, fun _ v v0 v1 => ?_⟩
        · unfold up
          rw [if_neg (by omega)]
          exact h3.2 q1
        · unfold up
          by_cases c : v = (k : Int) + 1
          · subst c
            rw [if_pos rfl, if_pos (by omega)]
            exact q3
          · rw [if_neg c, h4 q1 v v0 v1]
            by_cases c2 : v ≤ k
            · rw [if_pos c2, if_pos (show v ≤ ((k + 1 : Nat) : Int) by omega)]
            · rw [if_neg c2, if_neg (show ¬ v ≤ ((k + 1 : Nat) : Int) by omega)]
      refine gx_iload6 (q := 186) hG d_M_layFew_184 rfl ?_
      refine gx_iload4 (q := 188) hG d_M_layFew_186 rfl ?_
      refine gx_icmp_gt (tgt := 228) (q := 191) hG d_M_layFew_188 rfl rfl (by omega) (by omega) (fun c188 => ?_) (fun c188 => ?_)
      · exfalso; omega
      · refine gx_iload3 (q := 192) hG d_M_layFew_191 rfl ?_
        refine gx_iconst (q := 193) hG d_M_layFew_192 rfl ?_
        refine gx_icmp_ne (tgt := 228) (q := 196) hG d_M_layFew_193 rfl rfl (by omega) (by omega) (fun c193 => ?_) (fun c193 => ?_)
        · refine gx_return hG d_M_layFew_228 rfl rfl ?_
          exact ⟨_, rfl, rfl, F, rfl, fin (by omega)⟩
        · refine gx_iload5 (q := 198) hG d_M_layFew_196 rfl ?_
          refine gx_if_le (tgt := 228) (q := 201) hG d_M_layFew_198 rfl rfl (by omega) (fun c198 => ?_) (fun c198 => ?_)
          · refine gx_return hG d_M_layFew_228 rfl rfl ?_
            exact ⟨_, rfl, rfl, F, rfl, fin (by omega)⟩
          · refine gx_aload0 (q := 202) hG d_M_layFew_201 rfl ?_
            refine gx_get (q := 205) hG f_M_29 hpM rfl d_M_layFew_202 rfl ?_
            refine gx_iload6 (q := 207) hG d_M_layFew_205 rfl ?_
            refine gx_iload6 (q := 209) hG d_M_layFew_207 rfl ?_
            refine gx_iload5 (q := 211) hG d_M_layFew_209 rfl ?_
            refine gx_irem (q := 212) hG d_M_layFew_211 rfl (by omega) (by omega) (by omega) (by omega) ?_
            have hm := Int.emod_nonneg ((k : Int) + 1) (show (g : Int) ≠ 0 by omega)
            have hm2 := Int.emod_lt_of_pos ((k : Int) + 1) (show 0 < (g : Int) by omega)
            refine gx_if_ne (tgt := 219) (q := 215) hG d_M_layFew_212 rfl rfl (by omega) (fun c212 => ?_) (fun c212 => ?_)
            · refine gx_ldc (q := 221) hG (99999) k_M_127 d_M_layFew_219 rfl rfl ?_
              refine gw_iast (q := 222) hG rfl (by omega) (by omega) d_M_layFew_221 rfl ?_
              rw [wu_wcc]
              refine gx_iinc6 (q := 225) hG d_M_layFew_222 rfl rfl ?_
              refine gx_goto (tgt := 184) hG d_M_layFew_225 rfl ?_
              first
                | (have q3 : (0 : Int) = @ite _ (0 < gN (w x) n ∧ (gN (w x) n : Int) ∣ ((k : Int) + 1)) (Classical.propDecidable _) 0 99999 := by rw [if_pos ⟨by omega, Int.dvd_of_emod_eq_zero (by rw [← h2]; omega)⟩]
                   have e := ih (k + 1) g (up F ((k : Int) + 1) 0) o7 o8 o9 (by omega) h2 (nxt 0 (by omega) (by omega) q3).1 (nxt 0 (by omega) (by omega) q3).2
                   rw [show ((k + 1 : Nat) : Int) + 1 = (k : Int) + 1 + 1 by omega] at e
                   exact e)
                | (have q3 : (99999 : Int) = @ite _ (0 < gN (w x) n ∧ (gN (w x) n : Int) ∣ ((k : Int) + 1)) (Classical.propDecidable _) 0 99999 := by rw [if_neg (fun q => by have := Int.emod_eq_zero_of_dvd q.2; rw [← h2] at this; omega)]
                   have e := ih (k + 1) g (up F ((k : Int) + 1) 99999) o7 o8 o9 (by omega) h2 (nxt 99999 (by omega) (by omega) q3).1 (nxt 99999 (by omega) (by omega) q3).2
                   rw [show ((k + 1 : Nat) : Int) + 1 = (k : Int) + 1 + 1 by omega] at e
                   exact e)
            · refine gx_iconst (q := 216) hG d_M_layFew_215 rfl ?_
              refine gx_goto (tgt := 221) hG d_M_layFew_216 rfl ?_
              refine gw_iast (q := 222) hG rfl (by omega) (by omega) d_M_layFew_221 rfl ?_
              rw [wu_wcc]
              refine gx_iinc6 (q := 225) hG d_M_layFew_222 rfl rfl ?_
              refine gx_goto (tgt := 184) hG d_M_layFew_225 rfl ?_
              first
                | (have q3 : (0 : Int) = @ite _ (0 < gN (w x) n ∧ (gN (w x) n : Int) ∣ ((k : Int) + 1)) (Classical.propDecidable _) 0 99999 := by rw [if_pos ⟨by omega, Int.dvd_of_emod_eq_zero (by rw [← h2]; omega)⟩]
                   have e := ih (k + 1) g (up F ((k : Int) + 1) 0) o7 o8 o9 (by omega) h2 (nxt 0 (by omega) (by omega) q3).1 (nxt 0 (by omega) (by omega) q3).2
                   rw [show ((k + 1 : Nat) : Int) + 1 = (k : Int) + 1 + 1 by omega] at e
                   exact e)
                | (have q3 : (99999 : Int) = @ite _ (0 < gN (w x) n ∧ (gN (w x) n : Int) ∣ ((k : Int) + 1)) (Classical.propDecidable _) 0 99999 := by rw [if_neg (fun q => by have := Int.emod_eq_zero_of_dvd q.2; rw [← h2] at this; omega)]
                   have e := ih (k + 1) g (up F ((k : Int) + 1) 99999) o7 o8 o9 (by omega) h2 (nxt 99999 (by omega) (by omega) q3).1 (nxt 99999 (by omega) (by omega) q3).2
                   rw [show ((k + 1 : Nat) : Int) + 1 = (k : Int) + 1 + 1 by omega] at e
                   exact e)
  -- the rising pass
  have C : ∀ (j : Nat) (i : Nat) (y a : Int) (g : Int) (F : Int → Int) (o9 : Option Value), (y + j = top + 1 ∨ (j = 0 ∧ top < y)) → (i : Int) < n → a = w x i → (a ≤ y ∧ y ≤ 4001) → (law = 0 → FC (w x) i y F top) → (law ≠ 0 → True) → (∀ (y' : Int) (F' : Int → Int), (law = 0 → FC (w x) i (top + 1) F' top) → (law ≠ 0 → F' = F) → G 109 [some (Vr 76), some (Vr x), some (Vi (n : Int)), some (Vi law), some (Vi top), some (Vi g), some (Vi (i : Int)), some (Vi a), some (Vi y'), o9] [] 102 (hp (wc w 83 F'))) → G 63 [some (Vr 76), some (Vr x), some (Vi (n : Int)), some (Vi law), some (Vi top), some (Vi g), some (Vi (i : Int)), some (Vi a), some (Vi y), o9] [] 102 (hp (wc w 83 F)) := by
    intro j
    induction j with
    | zero =>
      intro i y a g F o9 h1 h2 h3 h4 h5 _ hk
      have hi := hn i (by omega) (by omega)
      refine gx_iload8 (q := 65) hG d_M_layFew_63 rfl ?_
      refine gx_iload4 (q := 67) hG d_M_layFew_65 rfl ?_
      refine gx_icmp_gt (tgt := 109) (q := 70) hG d_M_layFew_67 rfl rfl (by omega) (by omega) (fun c67 => ?_) (fun c67 => ?_)
      · exact hk y F (fun q v v0 v1 => ⟨fun _ => (h5 q v v0 v1).1 (by omega), fun q2 => by omega⟩) (fun _ => rfl)
      · exfalso; omega
    | succ j ih =>
      intro i y a g F o9 h1 h2 h3 h4 h5 _ hk
      have hi := hn i (by omega) (by omega)
      have hb : law = 0 → (0 ≤ F y ∧ F y ≤ 99999) ∧ (0 ≤ F (y - a) ∧ F (y - a) ≤ 99999) := fun q =>
        ⟨LW_bd ((h5 q y (by omega) (by omega)).2 (by omega)) (fun t z => by have := wy_le i (fun i2 i0 i1 => (hn i2 i0 (by omega)).1) _ _ z; omega),
         LW_bd ((h5 q (y - a) (by omega) (by omega)).1 (by omega)) (fun t z => by have := wy_le (i + 1) (fun i2 i0 i1 => (hn i2 i0 (by omega)).1) _ _ z; omega)⟩
      refine gx_iload8 (q := 65) hG d_M_layFew_63 rfl ?_
      refine gx_iload4 (q := 67) hG d_M_layFew_65 rfl ?_
      refine gx_icmp_gt (tgt := 109) (q := 70) hG d_M_layFew_67 rfl rfl (by omega) (by omega) (fun c67 => ?_) (fun c67 => ?_)
      · exfalso; omega
      · refine gx_iload3 (q := 71) hG d_M_layFew_70 rfl ?_
        refine gx_if_ne (tgt := 109) (q := 74) hG d_M_layFew_71 rfl rfl (by omega) (fun c71 => ?_) (fun c71 => ?_)
        · exact hk y F (fun q => by omega) (fun _ => rfl)
        · have hl0 : law = 0 := by omega
          have hb' := hb hl0
          refine gx_aload0 (q := 75) hG d_M_layFew_74 rfl ?_
          refine gx_get (q := 78) hG f_M_29 hpM rfl d_M_layFew_75 rfl ?_
          refine gx_iload8 (q := 80) hG d_M_layFew_78 rfl ?_
          refine gx_aload0 (q := 81) hG d_M_layFew_80 rfl ?_
          refine gx_get (q := 84) hG f_M_29 hpM rfl d_M_layFew_81 rfl ?_
          refine gx_iload8 (q := 86) hG d_M_layFew_84 rfl ?_
          refine gw_iald (q := 87) hG rfl (by omega) (by omega) d_M_layFew_86 rfl ?_
          rw [wc_eq]
          refine gx_aload0 (q := 88) hG d_M_layFew_87 rfl ?_
          refine gx_get (q := 91) hG f_M_29 hpM rfl d_M_layFew_88 rfl ?_
          refine gx_iload8 (q := 93) hG d_M_layFew_91 rfl ?_
          refine gx_iload7 (q := 95) hG d_M_layFew_93 rfl ?_
          refine gx_isub (q := 96) hG d_M_layFew_95 rfl ?_
          refine gw_iald (q := 97) hG rfl (by omega) (by omega) d_M_layFew_96 rfl ?_
          rw [wc_eq]
          refine gx_iconst (q := 98) hG d_M_layFew_97 rfl ?_
          refine gx_iadd (q := 99) hG d_M_layFew_98 rfl ?_
          refine gw_S2X (q := 102) hG l_M_128 c_M_lesser (ev_M_lesser (by omega) (by omega)) (by decide) (Nat.le_of_ble_eq_true rfl) d_M_layFew_99 rfl (by decide) ?_
          refine gw_iast (q := 103) hG rfl (by omega) (by omega) d_M_layFew_102 rfl ?_
          rw [wu_wcc]
          refine gx_iinc8 (q := 106) hG d_M_layFew_103 rfl rfl ?_
          refine gx_goto (tgt := 63) hG d_M_layFew_106 rfl ?_
          exact ih i (y + 1) a g _ o9 (by omega) h2 h3 (by omega) (fun q => FC_step (fun i2 i0 i1 => (hn i2 i0 (by omega)).1) h3.symm h4.1 (by omega) (by omega) (h5 q)) (fun _ => trivial) (fun y' F' q1 q2 => hk y' F' q1 (fun q => by omega))
  -- a falling pass
  have E : ∀ (j : Nat) (i p : Nat) (y a : Int) (g : Int) (F : Int → Int), law = 2 → (y + 1 = a + j ∨ (j = 0 ∧ y < a)) → (0 ≤ y ∧ y ≤ top) → (i : Int) < n → a = w x i → FE (w x) i p y F top → (∀ (y' : Int) (F' : Int → Int), (∀ v : Int, 0 ≤ v → v ≤ top → LW (wyp 2 (w x) i (p + 1) v) (F' v)) → G 169 [some (Vr 76), some (Vr x), some (Vi (n : Int)), some (Vi law), some (Vi top), some (Vi g), some (Vi (i : Int)), some (Vi a), some (Vi (p : Int)), some (Vi y')] [] 102 (hp (wc w 83 F'))) → G 127 [some (Vr 76), some (Vr x), some (Vi (n : Int)), some (Vi law), some (Vi top), some (Vi g), some (Vi (i : Int)), some (Vi a), some (Vi (p : Int)), some (Vi y)] [] 102 (hp (wc w 83 F)) := by
    intro j
    induction j with
    | zero =>
      intro i p y a g F hl2 h1 h1' h2 h3 h5 hk
      have hi := hn i (by omega) (by omega)
      refine gx_iload9 (q := 129) hG d_M_layFew_127 rfl ?_
      refine gx_iload7 (q := 131) hG d_M_layFew_129 rfl ?_
      refine gx_icmp_lt (tgt := 169) (q := 134) hG d_M_layFew_131 rfl rfl (by omega) (by omega) (fun c131 => ?_) (fun c131 => ?_)
      · refine hk y F (fun v v0 v1 => ?_)
        by_cases c : v ≤ y
        · exact LW_congr (fun t => (wyp_low (fun i2 i0 i1 => (hn i2 i0 (by omega)).1) (by omega)).symm) ((h5 v v0 v1).2 c)
        · exact (h5 v v0 v1).1 (by omega)
      · exfalso; omega
    | succ j ih =>
      intro i p y a g F hl2 h1 h1' h2 h3 h5 hk
      have hi := hn i (by omega) (by omega)
      have hb1 := LW_bd ((h5 y (by omega) (by omega)).2 (by omega)) (fun t z => by have := wyp_le (fun i2 i0 i1 => (hn i2 i0 (by omega)).1) z; omega)
      have hb2 := LW_bd ((h5 (y - a) (by omega) (by omega)).2 (by omega)) (fun t z => by have := wyp_le (fun i2 i0 i1 => (hn i2 i0 (by omega)).1) z; omega)
      refine gx_iload9 (q := 129) hG d_M_layFew_127 rfl ?_
      refine gx_iload7 (q := 131) hG d_M_layFew_129 rfl ?_
      refine gx_icmp_lt (tgt := 169) (q := 134) hG d_M_layFew_131 rfl rfl (by omega) (by omega) (fun c131 => ?_) (fun c131 => ?_)
      · exfalso; omega
      · refine gx_aload0 (q := 135) hG d_M_layFew_134 rfl ?_
        refine gx_get (q := 138) hG f_M_29 hpM rfl d_M_layFew_135 rfl ?_
        refine gx_iload9 (q := 140) hG d_M_layFew_138 rfl ?_
        refine gx_aload0 (q := 141) hG d_M_layFew_140 rfl ?_
        refine gx_get (q := 144) hG f_M_29 hpM rfl d_M_layFew_141 rfl ?_
        refine gx_iload9 (q := 146) hG d_M_layFew_144 rfl ?_
        refine gw_iald (q := 147) hG rfl (by omega) (by omega) d_M_layFew_146 rfl ?_
        rw [wc_eq]
        refine gx_aload0 (q := 148) hG d_M_layFew_147 rfl ?_
        refine gx_get (q := 151) hG f_M_29 hpM rfl d_M_layFew_148 rfl ?_
        refine gx_iload9 (q := 153) hG d_M_layFew_151 rfl ?_
        refine gx_iload7 (q := 155) hG d_M_layFew_153 rfl ?_
        refine gx_isub (q := 156) hG d_M_layFew_155 rfl ?_
        refine gw_iald (q := 157) hG rfl (by omega) (by omega) d_M_layFew_156 rfl ?_
        rw [wc_eq]
        refine gx_iconst (q := 158) hG d_M_layFew_157 rfl ?_
        refine gx_iadd (q := 159) hG d_M_layFew_158 rfl ?_
        refine gw_S2X (q := 162) hG l_M_128 c_M_lesser (ev_M_lesser (by omega) (by omega)) (by decide) (Nat.le_of_ble_eq_true rfl) d_M_layFew_159 rfl (by decide) ?_
        refine gw_iast (q := 163) hG rfl (by omega) (by omega) d_M_layFew_162 rfl ?_
        rw [wu_wcc]
        refine gx_iinc9 (q := 166) hG d_M_layFew_163 rfl rfl ?_
        refine gx_goto (tgt := 127) hG d_M_layFew_166 rfl ?_
        exact ih i p (y - 1) a g _ hl2 (by omega) (by omega) h2 h3 (FE_step (fun i2 i0 i1 => (hn i2 i0 (by omega)).1) h3.symm (by omega) (by omega) (by omega) h5) hk
  -- the three passes
  have D : ∀ (j : Nat) (i p : Nat) (a : Int) (g : Int) (F : Int → Int) (o9 : Option Value), p + j = 3 → (i : Int) < n → a = w x i → one1 [o9] 0 = true → (law = 2 → ∀ v : Int, 0 ≤ v → v ≤ top → LW (wyp 2 (w x) i p v) (F v)) → (∀ (p' : Int) (F' : Int → Int) (o9' : Option Value), one1 [o9'] 0 = true → (law = 2 → ∀ v : Int, 0 ≤ v → v ≤ top → LW (wyp 2 (w x) i 3 v) (F' v)) → (law ≠ 2 → F' = F) → G 175 [some (Vr 76), some (Vr x), some (Vi (n : Int)), some (Vi law), some (Vi top), some (Vi g), some (Vi (i : Int)), some (Vi a), some (Vi p'), o9'] [] 102 (hp (wc w 83 F'))) → G 112 [some (Vr 76), some (Vr x), some (Vi (n : Int)), some (Vi law), some (Vi top), some (Vi g), some (Vi (i : Int)), some (Vi a), some (Vi (p : Int)), o9] [] 102 (hp (wc w 83 F)) := by
    intro j
    induction j with
    | zero =>
      intro i p a g F o9 h1 h2 h3 ho h5 hk
      refine gx_iload8 (q := 114) hG d_M_layFew_112 rfl ?_
      refine gx_iconst (q := 115) hG d_M_layFew_114 rfl ?_
      refine gx_icmp_ge (tgt := 175) (q := 118) hG d_M_layFew_115 rfl rfl (by omega) (by omega) (fun c115 => ?_) (fun c115 => ?_)
      · exact hk p F o9 ho (fun q => by rw [← show p = 3 by omega]; exact h5 q) (fun _ => rfl)
      · exfalso; omega
    | succ j ih =>
      intro i p a g F o9 h1 h2 h3 ho h5 hk
      have hi := hn i (by omega) (by omega)
      have H : ∀ (y' : Int) (F' : Int → Int), law = 2 → (∀ v : Int, 0 ≤ v → v ≤ top → LW (wyp 2 (w x) i (p + 1) v) (F' v)) → G 169 [some (Vr 76), some (Vr x), some (Vi (n : Int)), some (Vi law), some (Vi top), some (Vi g), some (Vi (i : Int)), some (Vi a), some (Vi (p : Int)), some (Vi y')] [] 102 (hp (wc w 83 F')) := by
        intro y' F' q1 q2
        refine gx_iinc8 (q := 172) hG d_M_layFew_169 rfl rfl ?_
        refine gx_goto (tgt := 112) hG d_M_layFew_172 rfl ?_
        exact ih i (p + 1) a g F' _ (by omega) h2 h3 rfl (fun _ => q2) (fun p' F2 o9' r1 r2 r3 => hk p' F2 o9' r1 r2 (fun z => absurd q1 z))
      refine gx_iload8 (q := 114) hG d_M_layFew_112 rfl ?_
      refine gx_iconst (q := 115) hG d_M_layFew_114 rfl ?_
      refine gx_icmp_ge (tgt := 175) (q := 118) hG d_M_layFew_115 rfl rfl (by omega) (by omega) (fun c115 => ?_) (fun c115 => ?_)
      · exfalso; omega
      · refine gx_iload3 (q := 119) hG d_M_layFew_118 rfl ?_
        refine gx_iconst (q := 120) hG d_M_layFew_119 rfl ?_
        refine gx_icmp_ne (tgt := 175) (q := 123) hG d_M_layFew_120 rfl rfl (by omega) (by omega) (fun c120 => ?_) (fun c120 => ?_)
        · exact hk p F o9 ho (fun q => by omega) (fun _ => rfl)
        · refine gx_iload4 (q := 125) hG d_M_layFew_123 rfl ?_
          refine gx_istore9 (q := 127) hG d_M_layFew_125 rfl rfl ?_
          exact E (top + 1 - a).toNat i p top a g F (by omega) (by omega) (by omega) h2 h3 (fun v v0 v1 => ⟨fun q => by omega, fun _ => h5 (by omega) v v0 v1⟩) (fun y' F' q => H y' F' (by omega) q)
  -- all the numbers
  have B : ∀ (j i : Nat) (F : Int → Int) (o7 o8 o9 : Option Value), i + j = n → one1 [o7] 0 = true → one1 [o8] 0 = true → one1 [o9] 0 = true → FB law (w x) i F top → (law = 1 → ∀ v : Int, 1 ≤ v → v ≤ top → F v = 99999) → G 38 [some (Vr 76), some (Vr x), some (Vi (n : Int)), some (Vi law), some (Vi top), some (Vi ((gN (w x) i : Nat) : Int)), some (Vi (i : Int)), o7, o8, o9] [] 102 (hp (wc w 83 F)) := by
    intro j
    induction j with
    | zero =>
      intro i F o7 o8 o9 h1 g7 g8 g9 h2 h3
      have e : i = n := by omega
      subst e
      refine gx_iload6 (q := 40) hG d_M_layFew_38 rfl ?_
      refine gx_iload2 (q := 41) hG d_M_layFew_40 rfl ?_
      refine gx_icmp_ge (tgt := 181) (q := 44) hG d_M_layFew_41 rfl rfl (by omega) (by omega) (fun c41 => ?_) (fun c41 => ?_)
      · refine gx_iconst (q := 182) hG d_M_layFew_181 rfl ?_
        refine gx_istore6 (q := 184) hG d_M_layFew_182 rfl rfl ?_
        exact Z top.toNat 0 (gN (w x) i) F o7 o8 o9 (by omega) rfl h2 (fun q v v0 v1 => by rw [if_neg (by omega)]; exact h3 q v v0 v1)
      · exfalso; omega
    | succ j ih =>
      intro i F o7 o8 o9 h1 g7 g8 g9 h2 h3
      have hi := hn i (by omega) (by omega)
      have hg := gN_le (num := w x) i (fun i2 i0 i1 => hn i2 i0 (by omega))
      obtain ⟨a, ha⟩ : ∃ a : Nat, w x i = (a : Int) := ⟨(w x i).toNat, by omega⟩
      rw [ha] at hi
      have eg : Nat.gcd (gN (w x) i) a = gN (w x) (i + 1) := by
        show _ = Nat.gcd (gN (w x) i) (w x i).toNat
        rw [ha]
        rfl
      have hn1 : ∀ i2 : Int, 0 ≤ i2 → i2 < (i : Int) + 1 → 1 ≤ w x i2 := fun i2 i0 i1 => (hn i2 i0 (by omega)).1
      have H2 : ∀ (p' : Int) (F' : Int → Int) (o9' : Option Value), one1 [o9'] 0 = true → FB law (w x) (i + 1) F' top → (law = 1 → F' = F) → G 175 [some (Vr 76), some (Vr x), some (Vi (n : Int)), some (Vi law), some (Vi top), some (Vi ((gN (w x) (i + 1) : Nat) : Int)), some (Vi (i : Int)), some (Vi (a : Int)), some (Vi p'), o9'] [] 102 (hp (wc w 83 F')) := by
        intro p' F' o9' q1 q2 q3
        refine gx_iinc6 (q := 178) hG d_M_layFew_175 rfl rfl ?_
        refine gx_goto (tgt := 38) hG d_M_layFew_178 rfl ?_
        exact ih (i + 1) F' _ _ o9' (by omega) rfl rfl q1 q2 (fun z v v0 v1 => by rw [q3 z]; exact h3 z v v0 v1)
      have H1 : ∀ (y' : Int) (F' : Int → Int), (law = 0 → FC (w x) i (top + 1) F' top) → (law ≠ 0 → F' = F) → G 109 [some (Vr 76), some (Vr x), some (Vi (n : Int)), some (Vi law), some (Vi top), some (Vi ((gN (w x) (i + 1) : Nat) : Int)), some (Vi (i : Int)), some (Vi (a : Int)), some (Vi y'), o9] [] 102 (hp (wc w 83 F')) := by
        intro y' F' q1 q2
        refine gx_iconst (q := 110) hG d_M_layFew_109 rfl ?_
        refine gx_istore8 (q := 112) hG d_M_layFew_110 rfl rfl ?_
        refine D 3 i 0 a _ F' o9 (by omega) (by omega) ha.symm g9 (fun z v v0 v1 => ?_) (fun p' F2 o9' r1 r2 r3 => H2 p' F2 o9' r1 ⟨fun z v v0 v1 => ?_, fun z => ?_⟩ (fun z => ?_))
        · rw [q2 (by omega)]
          have e := h2.1 (by omega) v v0 v1
          rw [z] at e
          exact LW_congr (fun t => wyp_0.symm) e
        · by_cases c : law = 2
          · rw [c]
            exact LW_congr (fun t => wyp_3) (r2 c v v0 v1)
          · have c0 : law = 0 := by omega
            rw [r3 c, c0]
            exact (q1 c0 v v0 v1).1 (by omega)
        · rw [r3 (by omega), q2 (by omega)]
          exact h2.2 z
        · rw [r3 (by omega), q2 (by omega)]
      refine gx_iload6 (q := 40) hG d_M_layFew_38 rfl ?_
      refine gx_iload2 (q := 41) hG d_M_layFew_40 rfl ?_
      refine gx_icmp_ge (tgt := 181) (q := 44) hG d_M_layFew_41 rfl rfl (by omega) (by omega) (fun c41 => ?_) (fun c41 => ?_)
      · exfalso; omega
      · refine gx_aload1 (q := 45) hG d_M_layFew_44 rfl ?_
        refine gx_iload6 (q := 47) hG d_M_layFew_45 rfl ?_
        refine gw_iald (q := 48) hG hs (by omega) (by omega) d_M_layFew_47 rfl ?_
        rw [wc_ne hx, ha]
        refine gx_istore7 (q := 50) hG d_M_layFew_48 rfl rfl ?_
        refine gx_iload5 (q := 52) hG d_M_layFew_50 rfl ?_
        refine gx_iload7 (q := 54) hG d_M_layFew_52 rfl ?_
        refine gw_S2X (q := 57) hG l_M_106 c_M_divisor (ev_M_divisor (by omega) (by omega)) (by decide) (Nat.le_of_ble_eq_true rfl) d_M_layFew_54 rfl (by decide) ?_
        rw [eg]
        refine gx_istore5 (q := 59) hG d_M_layFew_57 rfl rfl ?_
        refine gx_iload7 (q := 61) hG d_M_layFew_59 rfl ?_
        refine gx_istore8 (q := 63) hG d_M_layFew_61 rfl rfl ?_
        refine C (top + 1 - a).toNat i a a _ F o9 (by omega) (by omega) ha.symm (by omega) (fun z v v0 v1 => ⟨fun q => ?_, fun q => ?_⟩) (fun _ => trivial) H1
        · have e := h2.1 (by omega) v v0 v1
          rw [z] at e
          exact LW_congr (fun t => (wy_low hn1 (by omega)).symm) e
        · have e := h2.1 (by omega) v v0 v1
          rw [z] at e
          exact e
  -- the table cleared
  have A : ∀ (j k : Nat), (k : Int) + j = top → G 3 [some (Vr 76), some (Vr x), some (Vi (n : Int)), some (Vi law), some (Vi top), some (Vi ((k : Int) + 1)), none, none, none, none] [] 102 (hp (wc w 83 (fillR 1 k (w 83) 99999))) := by
    intro j
    induction j with
    | zero =>
      intro k h1
      refine gx_iload5 (q := 5) hG d_M_layFew_3 rfl ?_
      refine gx_iload4 (q := 7) hG d_M_layFew_5 rfl ?_
      refine gx_icmp_gt (tgt := 25) (q := 10) hG d_M_layFew_7 rfl rfl (by omega) (by omega) (fun c7 => ?_) (fun c7 => ?_)
      · refine gx_aload0 (q := 26) hG d_M_layFew_25 rfl ?_
        refine gx_get (q := 29) hG f_M_29 hpM rfl d_M_layFew_26 rfl ?_
        refine gx_iconst (q := 30) hG d_M_layFew_29 rfl ?_
        refine gx_iconst (q := 31) hG d_M_layFew_30 rfl ?_
        refine gw_iast (q := 32) hG rfl (by omega) (by omega) d_M_layFew_31 rfl ?_
        rw [wu_wcc]
        refine gx_iconst (q := 33) hG d_M_layFew_32 rfl ?_
        refine gx_istore5 (q := 35) hG d_M_layFew_33 rfl rfl ?_
        refine gx_iconst (q := 36) hG d_M_layFew_35 rfl ?_
        refine gx_istore6 (q := 38) hG d_M_layFew_36 rfl rfl ?_
        refine B n 0 _ none none none (by omega) rfl rfl rfl ⟨fun z v v0 v1 => ?_, fun z => ?_⟩ (fun z v v0 v1 => ?_)
        · unfold up fillR
          by_cases c : v = 0
          · rw [if_pos c]
            exact Or.inl ⟨0, rfl, ⟨c, rfl⟩, fun u hu => by omega⟩
          · rw [if_neg c, if_pos (by omega)]
            exact Or.inr ⟨rfl, fun u q => c q.1⟩
        · unfold up
          rw [if_pos rfl]
        · unfold up fillR
          rw [if_neg (by omega), if_pos (by omega)]
      · exfalso; omega
    | succ j ih =>
      intro k h1
      have e : wu (wc w 83 (fillR 1 k (w 83) 99999)) 83 ((k : Int) + 1) 99999 = wc w 83 (fillR 1 (k + 1) (w 83) 99999) := by
        rw [show (k : Int) + 1 = 1 + k by omega]
        exact fillR_s
      refine gx_iload5 (q := 5) hG d_M_layFew_3 rfl ?_
      refine gx_iload4 (q := 7) hG d_M_layFew_5 rfl ?_
      refine gx_icmp_gt (tgt := 25) (q := 10) hG d_M_layFew_7 rfl rfl (by omega) (by omega) (fun c7 => ?_) (fun c7 => ?_)
      · exfalso; omega
      · refine gx_aload0 (q := 11) hG d_M_layFew_10 rfl ?_
        refine gx_get (q := 14) hG f_M_29 hpM rfl d_M_layFew_11 rfl ?_
        refine gx_iload5 (q := 16) hG d_M_layFew_14 rfl ?_
        refine gx_ldc (q := 18) hG (99999) k_M_127 d_M_layFew_16 rfl rfl ?_
        refine gw_iast (q := 19) hG rfl (by omega) (by omega) d_M_layFew_18 rfl ?_
        rw [e]
        refine gx_iinc5 (q := 22) hG d_M_layFew_19 rfl rfl ?_
        refine gx_goto (tgt := 3) hG d_M_layFew_22 rfl ?_
        exact ih (k + 1) (by omega)
  refine gx_iconst (q := 1) hG d_M_layFew_0 rfl ?_
  refine gx_istore5 (q := 3) hG d_M_layFew_1 rfl rfl ?_
  have e := A top.toNat 0 (by omega)
  rw [fillR_0] at e
  exact e

