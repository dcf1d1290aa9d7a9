/-! part 70: the tree, the reference's -/
theorem ev_M_has {w : Mem} {m k : Nat} (hm : m < 2 ^ 31) (hk : k < 32) : EvX y_M_has b_M_has 2 (some .boolean) (1) [Vi (m : Int), Vi (k : Int)] w (Vi (bi (m.testBit k = true))) := by
  refine Ev.mk (isI := false) (by decide +kernel) nofun (Nat.le_of_ble_eq_true rfl) (fun G hG => ?_)
  show G 0 [some (Vi (m : Int)), some (Vi (k : Int))] [] 102 (hp w)
  refine gx_iload0 (q := 1) hG d_M_has_0 rfl ?_
  refine gx_iload1 (q := 2) hG d_M_has_1 rfl ?_
  refine gx_ishr (q := 3) hG (((m >>> k : Nat) : Int)) d_M_has_2 rfl (i_shr m k hk hm) ?_
  refine gx_iconst (q := 4) hG d_M_has_3 rfl ?_
  refine gx_iand (q := 5) hG (bi (m.testBit k = true)) d_M_has_4 rfl (i_bit m k) ?_
  refine gx_iconst (q := 6) hG d_M_has_5 rfl ?_
  refine gx_icmp_ne (tgt := 13) (q := 9) hG d_M_has_6 rfl rfl (by have := bi_01 (m.testBit k = true); omega) (by have := bi_01 (m.testBit k = true); omega) (fun c6 => ?_) (fun c6 => ?_)
  · refine gx_iconst (q := 14) hG d_M_has_13 rfl ?_
    refine gx_zreturn hG d_M_has_14 rfl rfl (by first | exact bi_01 _ | decide | omega) ?_
    first
      | exact ⟨w, rfl, congrArg (fun z => some (Vi z)) (bi_t (bi_eq1.mp c6)).symm, rfl⟩
      | exact ⟨w, rfl, congrArg (fun z => some (Vi z)) (bi_f (fun q => c6 (bi_eq1.mpr q))).symm, rfl⟩
  · refine gx_iconst (q := 10) hG d_M_has_9 rfl ?_
    refine gx_goto (tgt := 14) hG d_M_has_10 rfl ?_
    refine gx_zreturn hG d_M_has_14 rfl rfl (by first | exact bi_01 _ | decide | omega) ?_
    first
      | exact ⟨w, rfl, congrArg (fun z => some (Vi z)) (bi_t (bi_eq1.mp c6)).symm, rfl⟩
      | exact ⟨w, rfl, congrArg (fun z => some (Vi z)) (bi_f (fun q => c6 (bi_eq1.mpr q))).symm, rfl⟩
theorem ev_M_topOf {w : Mem} {m : Nat} (hm : m < 2 ^ 31) : EvX y_M_topOf b_M_topOf 3 (some .int) (2) [Vi (m : Int)] w (Vi (topB m : Nat)) := by
  refine Ev.mk (isI := false) (by decide +kernel) nofun (Nat.le_of_ble_eq_true rfl) (fun G hG => ?_)
  show G 0 [some (Vi (m : Int)), none, none] [] 102 (hp w)
  have L : ∀ (j k : Nat), k + j = 23 → G 4 [some (Vi (m : Int)), some (Vi (topF m k : Nat)), some (Vi ((k : Int) + 1))] [] 102 (hp w) := by
    intro j
    induction j with
    | zero =>
      intro k h1
      have hk : k = 23 := by omega
      subst hk
      refine gx_iload2 (q := 5) hG d_M_topOf_4 rfl ?_
      refine gx_bipush (q := 7) hG d_M_topOf_5 rfl rfl ?_
      refine gx_icmp_ge (tgt := 30) (q := 10) hG d_M_topOf_7 rfl rfl (by omega) (by omega) (fun c7 => ?_) (fun c7 => ?_)
      · refine gx_iload1 (q := 31) hG d_M_topOf_30 rfl ?_
        refine gx_ireturn hG d_M_topOf_31 rfl rfl ?_
        exact ⟨_, rfl, rfl, rfl⟩
      · exfalso; omega
    | succ j ih =>
      intro k h1
      have e1 : (k : Int) + 1 = ((k + 1 : Nat) : Int) := rfl
      have e2 : topF m (k + 1) = if m.testBit (k + 1) then k + 1 else topF m k := rfl
      refine gx_iload2 (q := 5) hG d_M_topOf_4 rfl ?_
      refine gx_bipush (q := 7) hG d_M_topOf_5 rfl rfl ?_
      refine gx_icmp_ge (tgt := 30) (q := 10) hG d_M_topOf_7 rfl rfl (by omega) (by omega) (fun c7 => ?_) (fun c7 => ?_)
      · exfalso; omega
      · refine gx_iload0 (q := 11) hG d_M_topOf_10 rfl ?_
        refine gx_iload2 (q := 12) hG d_M_topOf_11 rfl ?_
        rw [e1]
        refine gw_S2X (q := 15) hG l_M_229 c_M_has (ev_M_has hm (by omega)) (by decide) (Nat.le_of_ble_eq_true rfl) d_M_topOf_12 rfl (by decide) ?_
        refine gx_if_eq (tgt := 22) (q := 18) hG d_M_topOf_15 rfl rfl (bi_R _) (fun c15 => ?_) (fun c15 => ?_)
        · have c15 := bi_eq0.mp c15
          refine gx_iload1 (q := 23) hG d_M_topOf_22 rfl ?_
          refine gx_istore1 (q := 24) hG d_M_topOf_23 rfl rfl ?_
          refine gx_iinc2 (q := 27) hG d_M_topOf_24 rfl rfl ?_
          refine gx_goto (tgt := 4) hG d_M_topOf_27 rfl ?_
          have e := ih (k + 1) (by omega)
          rw [e2] at e
          first
            | (rw [if_pos c15] at e; exact e)
            | (rw [if_neg c15] at e; exact e)
        · have c15 := bi_ne0.mp c15
          refine gx_iload2 (q := 19) hG d_M_topOf_18 rfl ?_
          refine gx_goto (tgt := 23) hG d_M_topOf_19 rfl ?_
          refine gx_istore1 (q := 24) hG d_M_topOf_23 rfl rfl ?_
          refine gx_iinc2 (q := 27) hG d_M_topOf_24 rfl rfl ?_
          refine gx_goto (tgt := 4) hG d_M_topOf_27 rfl ?_
          have e := ih (k + 1) (by omega)
          rw [e2] at e
          first
            | (rw [if_pos c15] at e; exact e)
            | (rw [if_neg c15] at e; exact e)
  refine gx_iconst (q := 1) hG d_M_topOf_0 rfl ?_
  refine gx_istore1 (q := 2) hG d_M_topOf_1 rfl rfl ?_
  refine gx_iconst (q := 3) hG d_M_topOf_2 rfl ?_
  refine gx_istore2 (q := 4) hG d_M_topOf_3 rfl rfl ?_
  exact L 23 0 (by omega)
theorem ev_M_makesIt {w : Mem} {m v : Nat} (hm : m < 2 ^ 31) (hv : 1 ≤ v ∧ v ≤ 30) : EvX y_M_makesIt b_M_makesIt 4 (some .boolean) (2) [Vi (m : Int), Vi (v : Int)] w (Vi (bi (mkBit m v = true))) := by
  refine Ev.mk (isI := false) (by decide +kernel) nofun (Nat.le_of_ble_eq_true rfl) (fun G hG => ?_)
  show G 0 [some (Vi (m : Int)), some (Vi (v : Int)), none, none] [] 102 (hp w)
  have fin : ∀ k : Nat, v < 2 * (k + 1) → ((¬ m.testBit v = true ∧ ∀ a : Nat, 1 ≤ a → a ≤ k → 2 * a ≤ v → m.testBit a = true ∨ m.testBit (v - a) = true) ↔ mkBit m v = true) := fun k hk => by
    unfold mkBit
    rw [Bool.and_eq_true, chkB_iff]
    refine and_congr ?_ ?_
    · cases m.testBit v <;> simp
    · exact ⟨fun q a a1 a2 => q a a1 (by omega) (by omega), fun q a a1 _ a2 => q a a1 (by omega)⟩
  have L : ∀ (j k : Nat), k + j = 16 → G 16 [some (Vi (m : Int)), some (Vi (v : Int)), some (Vi (bi (¬ m.testBit v = true ∧ ∀ a : Nat, 1 ≤ a → a ≤ k → 2 * a ≤ v → m.testBit a = true ∨ m.testBit (v - a) = true))), some (Vi ((k : Int) + 1))] [] 102 (hp w) := by
    intro j
    induction j with
    | zero =>
      intro k h1
      refine gx_iconst (q := 17) hG d_M_makesIt_16 rfl ?_
      refine gx_iload3 (q := 18) hG d_M_makesIt_17 rfl ?_
      refine gx_imul (q := 19) hG d_M_makesIt_18 rfl ?_
      refine gx_iload1 (q := 20) hG d_M_makesIt_19 rfl ?_
      refine gx_icmp_gt (tgt := 57) (q := 23) hG d_M_makesIt_20 rfl rfl (by omega) (by omega) (fun c20 => ?_) (fun c20 => ?_)
      · refine gx_iload2 (q := 58) hG d_M_makesIt_57 rfl ?_
        refine gx_zreturn hG d_M_makesIt_58 rfl rfl (bi_01 _) ?_
        exact ⟨_, rfl, congrArg (fun z => some (Vi z)) (bi_congr (fin k (by omega))), rfl⟩
      · exfalso; omega
    | succ j ih =>
      intro k h1
      have e1 : (k : Int) + 1 = ((k + 1 : Nat) : Int) := rfl
      have nx : (¬ m.testBit v = true ∧ ∀ a : Nat, 1 ≤ a → a ≤ k + 1 → 2 * a ≤ v → m.testBit a = true ∨ m.testBit (v - a) = true) ↔ ((¬ m.testBit v = true ∧ ∀ a : Nat, 1 ≤ a → a ≤ k → 2 * a ≤ v → m.testBit a = true ∨ m.testBit (v - a) = true) ∧ (2 * (k + 1) ≤ v → m.testBit (k + 1) = true ∨ m.testBit (v - (k + 1)) = true)) := by
        constructor
        · rintro ⟨q1, q2⟩
          exact ⟨⟨q1, fun a a1 a2 => q2 a a1 (by omega)⟩, q2 _ (by omega) (by omega)⟩
        · rintro ⟨⟨q1, q2⟩, q3⟩
          refine ⟨q1, fun a a1 a2 a3 => ?_⟩
          by_cases c : a = k + 1
          · rw [c] at a3 ⊢; exact q3 a3
          · exact q2 a a1 (by omega) a3
      have t1 := fun z => bi_t (nx.mpr z)
      have t0 := fun z : ¬ _ => bi_f (mt nx.mp z)
      refine gx_iconst (q := 17) hG d_M_makesIt_16 rfl ?_
      refine gx_iload3 (q := 18) hG d_M_makesIt_17 rfl ?_
      refine gx_imul (q := 19) hG d_M_makesIt_18 rfl ?_
      refine gx_iload1 (q := 20) hG d_M_makesIt_19 rfl ?_
      refine gx_icmp_gt (tgt := 57) (q := 23) hG d_M_makesIt_20 rfl rfl (by omega) (by omega) (fun c20 => ?_) (fun c20 => ?_)
      · refine gx_iload2 (q := 58) hG d_M_makesIt_57 rfl ?_
        refine gx_zreturn hG d_M_makesIt_58 rfl rfl (bi_01 _) ?_
        exact ⟨_, rfl, congrArg (fun z => some (Vi z)) (bi_congr (fin k (by omega))), rfl⟩
      · refine gx_iload2 (q := 24) hG d_M_makesIt_23 rfl ?_
        refine gx_if_eq (tgt := 49) (q := 27) hG d_M_makesIt_24 rfl rfl (bi_R _) (fun c24 => ?_) (fun c24 => ?_)
        · have hb := t0 (fun z => bi_eq0.mp c24 z.1)
          refine gx_iconst (q := 50) hG d_M_makesIt_49 rfl ?_
          refine gx_istore2 (q := 51) hG d_M_makesIt_50 rfl rfl ?_
          refine gx_iinc3 (q := 54) hG d_M_makesIt_51 rfl rfl ?_
          refine gx_goto (tgt := 16) hG d_M_makesIt_54 rfl ?_
          have e := ih (k + 1) (by omega)
          rw [hb] at e
          exact e
        · have d24 := bi_ne0.mp c24
          refine gx_iload0 (q := 28) hG d_M_makesIt_27 rfl ?_
          refine gx_iload3 (q := 29) hG d_M_makesIt_28 rfl ?_
          rw [e1]
          refine gw_S2X (q := 32) hG l_M_229 c_M_has (ev_M_has hm (by omega)) (by decide) (Nat.le_of_ble_eq_true rfl) d_M_makesIt_29 rfl (by decide) ?_
          refine gx_if_ne (tgt := 45) (q := 35) hG d_M_makesIt_32 rfl rfl (bi_R _) (fun c32 => ?_) (fun c32 => ?_)
          · have c32 := bi_ne0.mp c32
            have hb := t1 ⟨d24, fun _ => Or.inl c32⟩
            refine gx_iconst (q := 46) hG d_M_makesIt_45 rfl ?_
            refine gx_goto (tgt := 50) hG d_M_makesIt_46 rfl ?_
            refine gx_istore2 (q := 51) hG d_M_makesIt_50 rfl rfl ?_
            refine gx_iinc3 (q := 54) hG d_M_makesIt_51 rfl rfl ?_
            refine gx_goto (tgt := 16) hG d_M_makesIt_54 rfl ?_
            have e := ih (k + 1) (by omega)
            rw [hb] at e
            exact e
          · have c32 := bi_eq0.mp c32
            refine gx_iload0 (q := 36) hG d_M_makesIt_35 rfl ?_
            refine gx_iload1 (q := 37) hG d_M_makesIt_36 rfl ?_
            refine gx_iload3 (q := 38) hG d_M_makesIt_37 rfl ?_
            refine gx_isub (q := 39) hG d_M_makesIt_38 rfl ?_
            rw [show (v : Int) - ((k + 1 : Nat) : Int) = ((v - (k + 1) : Nat) : Int) by omega]
            refine gw_S2X (q := 42) hG l_M_229 c_M_has (ev_M_has hm (by omega)) (by decide) (Nat.le_of_ble_eq_true rfl) d_M_makesIt_39 rfl (by decide) ?_
            refine gx_if_eq (tgt := 49) (q := 45) hG d_M_makesIt_42 rfl rfl (bi_R _) (fun c42 => ?_) (fun c42 => ?_)
            · have c42 := bi_eq0.mp c42
              have hb := t0 (fun z => (z.2 (by omega)).elim c32 c42)
              refine gx_iconst (q := 50) hG d_M_makesIt_49 rfl ?_
              refine gx_istore2 (q := 51) hG d_M_makesIt_50 rfl rfl ?_
              refine gx_iinc3 (q := 54) hG d_M_makesIt_51 rfl rfl ?_
              refine gx_goto (tgt := 16) hG d_M_makesIt_54 rfl ?_
              have e := ih (k + 1) (by omega)
              rw [hb] at e
              exact e
            · have c42 := bi_ne0.mp c42
              have hb := t1 ⟨d24, fun _ => Or.inr c42⟩
              refine gx_iconst (q := 46) hG d_M_makesIt_45 rfl ?_
              refine gx_goto (tgt := 50) hG d_M_makesIt_46 rfl ?_
              refine gx_istore2 (q := 51) hG d_M_makesIt_50 rfl rfl ?_
              refine gx_iinc3 (q := 54) hG d_M_makesIt_51 rfl rfl ?_
              refine gx_goto (tgt := 16) hG d_M_makesIt_54 rfl ?_
              have e := ih (k + 1) (by omega)
              rw [hb] at e
              exact e
  refine gx_iload0 (q := 1) hG d_M_makesIt_0 rfl ?_
  refine gx_iload1 (q := 2) hG d_M_makesIt_1 rfl ?_
  refine gw_S2X (q := 5) hG l_M_229 c_M_has (ev_M_has hm (by omega)) (by decide) (Nat.le_of_ble_eq_true rfl) d_M_makesIt_2 rfl (by decide) ?_
  refine gx_if_ne (tgt := 12) (q := 8) hG d_M_makesIt_5 rfl rfl (bi_R _) (fun c5 => ?_) (fun c5 => ?_)
  · have c5 := bi_ne0.mp c5
    refine gx_iconst (q := 13) hG d_M_makesIt_12 rfl ?_
    refine gx_istore2 (q := 14) hG d_M_makesIt_13 rfl rfl ?_
    refine gx_iconst (q := 15) hG d_M_makesIt_14 rfl ?_
    refine gx_istore3 (q := 16) hG d_M_makesIt_15 rfl rfl ?_
    have e := L 16 0 (by omega)
    first
      | (rw [bi_t ⟨c5, fun a a1 a2 => by omega⟩] at e; exact e)
      | (rw [bi_f (fun q => q.1 c5)] at e; exact e)
  · have c5 := bi_eq0.mp c5
    refine gx_iconst (q := 9) hG d_M_makesIt_8 rfl ?_
    refine gx_goto (tgt := 13) hG d_M_makesIt_9 rfl ?_
    refine gx_istore2 (q := 14) hG d_M_makesIt_13 rfl rfl ?_
    refine gx_iconst (q := 15) hG d_M_makesIt_14 rfl ?_
    refine gx_istore3 (q := 16) hG d_M_makesIt_15 rfl rfl ?_
    have e := L 16 0 (by omega)
    first
      | (rw [bi_t ⟨c5, fun a a1 a2 => by omega⟩] at e; exact e)
      | (rw [bi_f (fun q => q.1 c5)] at e; exact e)
def gl (l : List Nat) (j : Nat) : Int := ((l[j]?.getD 0 : Nat) : Int)
theorem gl_mid {d t : List Nat} {m : Nat} : gl (d ++ m :: t) d.length = m := by
  unfold gl
  rw [List.getElem?_append_right (Nat.le_refl _), Nat.sub_self]
  rfl
theorem gl_app {d e : List Nat} {j : Nat} (h : j < d.length) : gl (d ++ e) j = gl d j := by
  unfold gl
  rw [List.getElem?_append_left h]
theorem gl_end {d : List Nat} {m : Nat} : gl (d ++ [m]) d.length = m := gl_mid
theorem lev_s {g : Nat} : lev (g + 1) = nxL g (lev g) := rfl
theorem ev_M_tree {w : Mem} {n f : Int} (hO : OK (aM w)) (hn : R3 n) (hf : R3 f) : EvI y_M_tree b_M_tree 8 (some .int) (3) [Vr 76, Vi n, Vi f] w (PM w (sp_tree (aM w) n f)) := by
  refine Ev.mk (isI := false) (by decide +kernel) nofun (Nat.le_of_ble_eq_true rfl) (fun G hG => ?_)
  show G 0 [some (Vr 76), some (Vi n), some (Vi f), none, none, none, none, none] [] 102 (hp w)
  have fr : ∀ W : Mem, (∀ b, b ≠ 100 → b ≠ 101 → W b = w b) → SM w W := fun W h => SM_scr (fun b hb => h b (by omega) (by omega))
  -- the count at the end
  have E : ∀ (t d : List Nat) (nn ff : Nat) (W : Mem) (o4 o6 o7 : Option Value), nn ≤ 9 → ff ≤ 17 → n = (nn : Int) → f = (ff : Int) → lev nn = d ++ t → (∀ b, b ≠ 100 → b ≠ 101 → W b = w b) → (∀ j, j < (lev nn).length → W 100 j = gl (lev nn) j) → ∀ c : Nat, c + cntF ff t = cntF ff (lev nn) → G 170 [some (Vr 76), some (Vi n), some (Vi f), some (Vi ((lev nn).length : Nat)), some (Vi (c : Int)), some (Vi (d.length : Nat)), o6, o7] [] 102 (hp W) := by
    intro t
    induction t with
    | nil =>
      intro d nn ff W o4 o6 o7 h1 h2 en ef h3 h4 h5 c h6
      have hlen : (lev nn).length = d.length := by rw [h3, List.append_nil]
      have h6 : c + 0 = cntF ff (lev nn) := h6
      have hl : (lev nn).length ≤ 118 := (lev_ok ⟨nn, by omega⟩).1
      refine gx_iload5 (q := 172) hG d_M_tree_170 rfl ?_
      refine gx_iload3 (q := 173) hG d_M_tree_172 rfl ?_
      refine gx_icmp_ge (tgt := 206) (q := 176) hG d_M_tree_173 rfl rfl (by omega) (by omega) (fun c173 => ?_) (fun c173 => ?_)
      · refine gx_aload0 (q := 207) hG d_M_tree_206 rfl ?_
        refine gx_iload3 (q := 208) hG d_M_tree_207 rfl ?_
        refine gx_i2l (q := 209) hG d_M_tree_208 rfl (by omega) ?_
        refine gx_iconst (q := 210) hG d_M_tree_209 rfl ?_
        refine gw_V2I (q := 213) hG l_M_202 c_M_whole (ev_M_whole) hpM rfl (by decide) (Nat.le_of_ble_eq_true rfl) d_M_tree_210 rfl (by decide) (fun z w1 h210 => ?_)
        refine gx_popi (q := 214) hG d_M_tree_213 rfl ?_
        refine gx_aload0 (q := 215) hG d_M_tree_214 rfl ?_
        refine gx_iload4 (q := 217) hG d_M_tree_215 rfl ?_
        refine gx_iconst (q := 218) hG d_M_tree_217 rfl ?_
        refine gw_V2I (q := 221) hG l_M_121 c_M_tells (ev_M_tells) hpM rfl (by decide) (Nat.le_of_ble_eq_true rfl) d_M_tree_218 rfl (by decide) (fun z2 w2 h218 => ?_)
        refine gx_ireturn hG d_M_tree_221 rfl rfl ?_
        refine ⟨_, rfl, _, rfl, ?_⟩
        obtain ⟨rfl, rfl⟩ := h210
        obtain ⟨rfl, rfl⟩ := h218
        have hs := fr W h4
        unfold sp_tree
        rw [if_neg (by omega), show n.toNat = nn by omega, show f.toNat = ff by omega]
        have e := SM_fr (u := (((lev nn).length : Nat) : Int)) (z := 1) hs
        refine ⟨rfl, ?_, fun b hb => by rw [wu_ne (by omega), e.2.2 b hb]⟩
        rw [aM_u2, e.2.1, ← h6, Nat.add_zero]
      · exfalso; omega
    | cons m t ih =>
      intro d nn ff W o4 o6 o7 h1 h2 en ef h3 h4 h5 c h6
      have h6 : c + ((if topB m = ff then 1 else 0) + cntF ff t) = cntF ff (lev nn) := h6
      have hlen : (lev nn).length = d.length + (t.length + 1) := by rw [h3, List.length_append, List.length_cons]
      have hok := lev_ok ⟨nn, by omega⟩
      have hm := (hok.2 m (by show m ∈ lev nn; rw [h3]; simp)).1
      have hl : (lev nn).length ≤ 118 := hok.1
      have em : W 100 (d.length : Nat) = (m : Int) := by rw [h5 d.length (by omega), h3, gl_mid]
      have ih' := fun c h => ih (d ++ [m]) nn ff W o4 o6 o7 h1 h2 en ef (by rw [h3]; simp) h4 h5 c h
      rw [List.length_append, List.length_singleton] at ih'
      have tb : topB m ≤ 17 := (hok.2 m (by show m ∈ lev nn; rw [h3]; simp)).2
      refine gx_iload5 (q := 172) hG d_M_tree_170 rfl ?_
      refine gx_iload3 (q := 173) hG d_M_tree_172 rfl ?_
      refine gx_icmp_ge (tgt := 206) (q := 176) hG d_M_tree_173 rfl rfl (by omega) (by omega) (fun c173 => ?_) (fun c173 => ?_)
      · exfalso; omega
      · refine gx_iload4 (q := 178) hG d_M_tree_176 rfl ?_
        refine gx_aload0 (q := 179) hG d_M_tree_178 rfl ?_
        refine gx_get (q := 182) hG f_M_82 hpM rfl d_M_tree_179 rfl ?_
        refine gx_iload5 (q := 184) hG d_M_tree_182 rfl ?_
        refine gw_iald (q := 185) hG rfl (by omega) (by omega) d_M_tree_184 rfl ?_
        rw [em]
        refine gw_S1X (q := 188) hG l_M_307 c_M_topOf (ev_M_topOf (by omega)) (by decide) (Nat.le_of_ble_eq_true rfl) d_M_tree_185 rfl (by decide) ?_
        refine gx_iload2 (q := 189) hG d_M_tree_188 rfl ?_
        refine gx_icmp_ne (tgt := 196) (q := 192) hG d_M_tree_189 rfl rfl (by omega) (by omega) (fun c189 => ?_) (fun c189 => ?_)
        · refine gx_iconst (q := 197) hG d_M_tree_196 rfl ?_
          refine gx_iadd (q := 198) hG d_M_tree_197 rfl ?_
          refine gx_istore4 (q := 200) hG d_M_tree_198 rfl rfl ?_
          refine gx_iinc5 (q := 203) hG d_M_tree_200 rfl rfl ?_
          refine gx_goto (tgt := 170) hG d_M_tree_203 rfl ?_
          first
            | exact ih' (c + 1) (by rw [if_pos (by omega)] at h6; omega)
            | (have e := ih' c (by rw [if_neg (by omega)] at h6; omega)
               rw [Int.add_zero]
               exact e)
        · refine gx_iconst (q := 193) hG d_M_tree_192 rfl ?_
          refine gx_goto (tgt := 197) hG d_M_tree_193 rfl ?_
          refine gx_iadd (q := 198) hG d_M_tree_197 rfl ?_
          refine gx_istore4 (q := 200) hG d_M_tree_198 rfl rfl ?_
          refine gx_iinc5 (q := 203) hG d_M_tree_200 rfl rfl ?_
          refine gx_goto (tgt := 170) hG d_M_tree_203 rfl ?_
          first
            | exact ih' (c + 1) (by rw [if_pos (by omega)] at h6; omega)
            | (have e := ih' c (by rw [if_neg (by omega)] at h6; omega)
               rw [Int.add_zero]
               exact e)
  have L : ∀ (jj g nn ff : Nat) (W : Mem) (o5 o6 o7 : Option Value), g + jj = nn → nn ≤ 9 → ff ≤ 17 → n = (nn : Int) → f = (ff : Int) → one1 [o5] 0 = true → one1 [o6] 0 = true → one1 [o7] 0 = true → (∀ b, b ≠ 100 → b ≠ 101 → W b = w b) → (∀ j, j < (lev g).length → W 100 j = gl (lev g) j) → G 34 [some (Vr 76), some (Vi n), some (Vi f), some (Vi ((lev g).length : Nat)), some (Vi (g : Int)), o5, o6, o7] [] 102 (hp W) := by
    intro jj
    induction jj with
    | zero =>
      intro g nn ff W o5 o6 o7 h1 h2 h2' en ef g5 g6 g7 h3 h4
      have eg : g = nn := by omega
      subst eg
      refine gx_iload4 (q := 36) hG d_M_tree_34 rfl ?_
      refine gx_iload1 (q := 37) hG d_M_tree_36 rfl ?_
      refine gx_icmp_ge (tgt := 164) (q := 40) hG d_M_tree_37 rfl rfl (by omega) (by omega) (fun c37 => ?_) (fun c37 => ?_)
      · refine gx_iconst (q := 165) hG d_M_tree_164 rfl ?_
        refine gx_istore4 (q := 167) hG d_M_tree_165 rfl rfl ?_
        refine gx_iconst (q := 168) hG d_M_tree_167 rfl ?_
        refine gx_istore5 (q := 170) hG d_M_tree_168 rfl rfl ?_
        exact E (lev g) [] g ff W none o6 o7 h2 h2' en ef rfl h3 h4 0 (by omega)
      · exfalso; omega
    | succ jj ihg =>
      intro g nn ff W o5 o6 o7 h1 h2 h2' en ef g5 g6 g7 h3 h4
      have hok := lev_ok ⟨g, by omega⟩
      have hok1 := lev_ok ⟨g + 1, by omega⟩
      have hl : (lev g).length ≤ 118 := hok.1
      have hl1 : (lev (g + 1)).length ≤ 118 := hok1.1
      -- the copying
      have Cp : ∀ (j k : Nat) (W : Mem) (x : Int) (o7 : Option Value), k + j = (lev (g + 1)).length → one1 [o7] 0 = true → (∀ b, b ≠ 100 → b ≠ 101 → W b = w b) → (∀ j, j < (lev (g + 1)).length → W 101 j = gl (lev (g + 1)) j) → (∀ j, j < k → W 100 j = gl (lev (g + 1)) j) → G 132 [some (Vr 76), some (Vi n), some (Vi f), some (Vi ((lev (g + 1)).length : Nat)), some (Vi (g : Int)), some (Vi x), some (Vi (k : Int)), o7] [] 102 (hp W) := by
        intro j
        induction j with
        | zero =>
          intro k W x o7 c1 c7 c2 c3 c4
          refine gx_iload6 (q := 134) hG d_M_tree_132 rfl ?_
          refine gx_iload3 (q := 135) hG d_M_tree_134 rfl ?_
          refine gx_icmp_ge (tgt := 158) (q := 138) hG d_M_tree_135 rfl rfl (by omega) (by omega) (fun c135 => ?_) (fun c135 => ?_)
          · refine gx_iinc4 (q := 161) hG d_M_tree_158 rfl rfl ?_
            refine gx_goto (tgt := 34) hG d_M_tree_161 rfl ?_
            exact ihg (g + 1) nn ff W _ _ o7 (by omega) h2 h2' en ef rfl rfl c7 c2 (fun j hj => c4 j (by omega))
          · exfalso; omega
        | succ j ihj =>
          intro k W x o7 c1 c7 c2 c3 c4
          refine gx_iload6 (q := 134) hG d_M_tree_132 rfl ?_
          refine gx_iload3 (q := 135) hG d_M_tree_134 rfl ?_
          refine gx_icmp_ge (tgt := 158) (q := 138) hG d_M_tree_135 rfl rfl (by omega) (by omega) (fun c135 => ?_) (fun c135 => ?_)
          · exfalso; omega
          · refine gx_aload0 (q := 139) hG d_M_tree_138 rfl ?_
            refine gx_get (q := 142) hG f_M_82 hpM rfl d_M_tree_139 rfl ?_
            refine gx_iload6 (q := 144) hG d_M_tree_142 rfl ?_
            refine gx_aload0 (q := 145) hG d_M_tree_144 rfl ?_
            refine gx_get (q := 148) hG f_M_85 hpM rfl d_M_tree_145 rfl ?_
            refine gx_iload6 (q := 150) hG d_M_tree_148 rfl ?_
            refine gw_iald (q := 151) hG rfl (by omega) (by omega) d_M_tree_150 rfl ?_
            rw [c3 k (by omega)]
            refine gw_iast (q := 152) hG rfl (by omega) (by omega) d_M_tree_151 rfl ?_
            refine gx_iinc6 (q := 155) hG d_M_tree_152 rfl rfl ?_
            refine gx_goto (tgt := 132) hG d_M_tree_155 rfl ?_
            refine ihj (k + 1) _ x o7 (by omega) c7 (fun b b1 b2 => by rw [wu_ne b1, c2 b b1 b2]) (fun j hj => by rw [wu_ne (by omega)]; exact c3 j hj) (fun j hj => ?_)
            rw [wu_at]
            unfold up
            by_cases e : j = k
            · rw [if_pos (by omega), e]
            · rw [if_neg (by omega)]; exact c4 j (by omega)
      have Iv : ∀ (t d : List Nat) (P : List Nat) (W : Mem) (o7 : Option Value), lev g = d ++ t → P ++ nxL g t = lev (g + 1) → one1 [o7] 0 = true → (∀ b, b ≠ 100 → b ≠ 101 → W b = w b) → (∀ j, j < (lev g).length → W 100 j = gl (lev g) j) → (∀ j, j < P.length → W 101 j = gl P j) → G 46 [some (Vr 76), some (Vi n), some (Vi f), some (Vi ((lev g).length : Nat)), some (Vi (g : Int)), some (Vi (P.length : Nat)), some (Vi (d.length : Nat)), o7] [] 102 (hp W) := by
        intro t
        induction t with
        | nil =>
          intro d P W o7 c1 c2 c7 c3 c4 c5
          have hlen : (lev g).length = d.length := by rw [c1, List.append_nil]
          have eP : P = lev (g + 1) := by rw [← c2]; exact (List.append_nil P).symm
          subst eP
          refine gx_iload6 (q := 48) hG d_M_tree_46 rfl ?_
          refine gx_iload3 (q := 49) hG d_M_tree_48 rfl ?_
          refine gx_icmp_ge (tgt := 126) (q := 52) hG d_M_tree_49 rfl rfl (by omega) (by omega) (fun c49 => ?_) (fun c49 => ?_)
          · refine gx_iload5 (q := 128) hG d_M_tree_126 rfl ?_
            refine gx_istore3 (q := 129) hG d_M_tree_128 rfl rfl ?_
            refine gx_iconst (q := 130) hG d_M_tree_129 rfl ?_
            refine gx_istore6 (q := 132) hG d_M_tree_130 rfl rfl ?_
            exact Cp (lev (g + 1)).length 0 W _ o7 (by omega) c7 c3 c5 (fun j hj => by omega)
          · exfalso; omega
        | cons m t iht =>
          intro d P W o7 c1 c2 c7 c3 c4 c5
          have hlen : (lev g).length = d.length + (t.length + 1) := by rw [c1, List.length_append, List.length_cons]
          have hm := hok.2 m (by show m ∈ lev g; rw [c1]; simp)
          have em : ∀ W : Mem, (∀ j, j < (lev g).length → W 100 j = gl (lev g) j) → W 100 (d.length : Nat) = (m : Int) := fun W c4 => by rw [c4 d.length (by omega), c1, gl_mid]
          have Vl : ∀ (k v : Nat) (P : List Nat) (W : Mem), (v + k = 2 * g + 2 ∨ (k = 0 ∧ 2 * g + 2 ≤ v)) → (1 ≤ v ∧ v ≤ 24) → P ++ (extV m v k ++ nxL g t) = lev (g + 1) → (∀ b, b ≠ 100 → b ≠ 101 → W b = w b) → (∀ j, j < (lev g).length → W 100 j = gl (lev g) j) → (∀ j, j < P.length → W 101 j = gl P j) → G 66 [some (Vr 76), some (Vi n), some (Vi f), some (Vi ((lev g).length : Nat)), some (Vi (g : Int)), some (Vi (P.length : Nat)), some (Vi (d.length : Nat)), some (Vi (v : Int))] [] 102 (hp W) := by
            intro k
            induction k with
            | zero =>
              intro v P W k1 k1' k2 k3 k4 k5
              have e := iht (d ++ [m]) P W (some (Vi (v : Int))) (by rw [c1]; simp) k2 rfl k3 k4 k5
              rw [List.length_append, List.length_singleton] at e
              refine gx_iload7 (q := 68) hG d_M_tree_66 rfl ?_
              refine gx_iconst (q := 69) hG d_M_tree_68 rfl ?_
              refine gx_iload4 (q := 71) hG d_M_tree_69 rfl ?_
              refine gx_imul (q := 72) hG d_M_tree_71 rfl ?_
              refine gx_iconst (q := 73) hG d_M_tree_72 rfl ?_
              refine gx_iadd (q := 74) hG d_M_tree_73 rfl ?_
              refine gx_icmp_gt (tgt := 120) (q := 77) hG d_M_tree_74 rfl rfl (by omega) (by omega) (fun c74 => ?_) (fun c74 => ?_)
              · refine gx_iinc6 (q := 123) hG d_M_tree_120 rfl rfl ?_
                refine gx_goto (tgt := 46) hG d_M_tree_123 rfl ?_
                exact e
              · exfalso; omega
            | succ k ihk =>
              intro v P W k1 k1' k2 k3 k4 k5
              have hP : P.length ≤ 118 ∧ (mkBit m v = true → P.length + 1 ≤ 118) := by
                have q := congrArg List.length k2
                rw [List.length_append] at q
                refine ⟨by omega, fun z => ?_⟩
                unfold extV at q
                rw [if_pos z] at q
                simp only [List.length_append, List.length_cons] at q
                omega
              refine gx_iload7 (q := 68) hG d_M_tree_66 rfl ?_
              refine gx_iconst (q := 69) hG d_M_tree_68 rfl ?_
              refine gx_iload4 (q := 71) hG d_M_tree_69 rfl ?_
              refine gx_imul (q := 72) hG d_M_tree_71 rfl ?_
              refine gx_iconst (q := 73) hG d_M_tree_72 rfl ?_
              refine gx_iadd (q := 74) hG d_M_tree_73 rfl ?_
              refine gx_icmp_gt (tgt := 120) (q := 77) hG d_M_tree_74 rfl rfl (by omega) (by omega) (fun c74 => ?_) (fun c74 => ?_)
              · exfalso; omega
              · refine gx_aload0 (q := 78) hG d_M_tree_77 rfl ?_
                refine gx_get (q := 81) hG f_M_82 hpM rfl d_M_tree_78 rfl ?_
                refine gx_iload6 (q := 83) hG d_M_tree_81 rfl ?_
                refine gw_iald (q := 84) hG rfl (by omega) (by omega) d_M_tree_83 rfl ?_
                rw [em W k4]
                refine gx_iload7 (q := 86) hG d_M_tree_84 rfl ?_
                refine gw_S2X (q := 89) hG l_M_310 c_M_makesIt (ev_M_makesIt (by omega) (by omega)) (by decide) (Nat.le_of_ble_eq_true rfl) d_M_tree_86 rfl (by decide) ?_
                refine gx_if_eq (tgt := 114) (q := 92) hG d_M_tree_89 rfl rfl (bi_R _) (fun c89 => ?_) (fun c89 => ?_)
                · have c89 := bi_eq0.mp c89
                  refine gx_iinc7 (q := 117) hG d_M_tree_114 rfl rfl ?_
                  refine gx_goto (tgt := 66) hG d_M_tree_117 rfl ?_
                  first
                    | (have e := ihk (v + 1) (P ++ [m ||| 1 <<< v]) (wu W 101 (P.length : Nat) ((m ||| 1 <<< v : Nat) : Int)) (by omega) (by omega) (by unfold extV at k2; rw [if_pos c89] at k2; rw [← k2]; simp) (fun b b1 b2 => by rw [wu_ne b2, k3 b b1 b2]) (fun j hj => by rw [wu_ne (by omega)]; exact k4 j hj) (fun j hj => by
                         rw [List.length_append, List.length_singleton] at hj
                         rw [wu_at]
                         unfold up
                         by_cases q : j = P.length
                         · rw [if_pos (by omega), q, gl_end]
                         · rw [if_neg (by omega), gl_app (by omega)]; exact k5 j (by omega))
                       rw [List.length_append, List.length_singleton] at e
                       exact e)
                    | exact ihk (v + 1) P W (by omega) (by omega) (by unfold extV at k2; rw [if_neg c89] at k2; exact k2) k3 k4 k5
                · have c89 := bi_ne0.mp c89
                  refine gx_aload0 (q := 93) hG d_M_tree_92 rfl ?_
                  refine gx_get (q := 96) hG f_M_85 hpM rfl d_M_tree_93 rfl ?_
                  refine gx_iload5 (q := 98) hG d_M_tree_96 rfl ?_
                  refine gx_aload0 (q := 99) hG d_M_tree_98 rfl ?_
                  refine gx_get (q := 102) hG f_M_82 hpM rfl d_M_tree_99 rfl ?_
                  refine gx_iload6 (q := 104) hG d_M_tree_102 rfl ?_
                  refine gw_iald (q := 105) hG rfl (by omega) (by omega) d_M_tree_104 rfl ?_
                  rw [em W k4]
                  refine gx_iconst (q := 106) hG d_M_tree_105 rfl ?_
                  refine gx_iload7 (q := 108) hG d_M_tree_106 rfl ?_
                  refine gx_ishl (q := 109) hG (((1 <<< v : Nat) : Int)) d_M_tree_108 rfl (i_shl 1 v (by omega)) ?_
                  refine gx_ior (q := 110) hG (((m ||| 1 <<< v : Nat) : Int)) d_M_tree_109 rfl (i_or m (1 <<< v)) ?_
                  refine gw_iast (q := 111) hG rfl (by omega) (by omega) d_M_tree_110 rfl ?_
                  refine gx_iinc5 (q := 114) hG d_M_tree_111 rfl rfl ?_
                  refine gx_iinc7 (q := 117) hG d_M_tree_114 rfl rfl ?_
                  refine gx_goto (tgt := 66) hG d_M_tree_117 rfl ?_
                  first
                    | (have e := ihk (v + 1) (P ++ [m ||| 1 <<< v]) (wu W 101 (P.length : Nat) ((m ||| 1 <<< v : Nat) : Int)) (by omega) (by omega) (by unfold extV at k2; rw [if_pos c89] at k2; rw [← k2]; simp) (fun b b1 b2 => by rw [wu_ne b2, k3 b b1 b2]) (fun j hj => by rw [wu_ne (by omega)]; exact k4 j hj) (fun j hj => by
                         rw [List.length_append, List.length_singleton] at hj
                         rw [wu_at]
                         unfold up
                         by_cases q : j = P.length
                         · rw [if_pos (by omega), q, gl_end]
                         · rw [if_neg (by omega), gl_app (by omega)]; exact k5 j (by omega))
                       rw [List.length_append, List.length_singleton] at e
                       exact e)
                    | exact ihk (v + 1) P W (by omega) (by omega) (by unfold extV at k2; rw [if_neg c89] at k2; exact k2) k3 k4 k5
          have c2 : P ++ (extV m (topB m + 1) (2 * g + 1 - topB m) ++ nxL g t) = lev (g + 1) := c2
          refine gx_iload6 (q := 48) hG d_M_tree_46 rfl ?_
          refine gx_iload3 (q := 49) hG d_M_tree_48 rfl ?_
          refine gx_icmp_ge (tgt := 126) (q := 52) hG d_M_tree_49 rfl rfl (by omega) (by omega) (fun c49 => ?_) (fun c49 => ?_)
          · exfalso; omega
          · refine gx_aload0 (q := 53) hG d_M_tree_52 rfl ?_
            refine gx_get (q := 56) hG f_M_82 hpM rfl d_M_tree_53 rfl ?_
            refine gx_iload6 (q := 58) hG d_M_tree_56 rfl ?_
            refine gw_iald (q := 59) hG rfl (by omega) (by omega) d_M_tree_58 rfl ?_
            rw [em W c4]
            refine gw_S1X (q := 62) hG l_M_307 c_M_topOf (ev_M_topOf (by omega)) (by decide) (Nat.le_of_ble_eq_true rfl) d_M_tree_59 rfl (by decide) ?_
            refine gx_iconst (q := 63) hG d_M_tree_62 rfl ?_
            refine gx_iadd (q := 64) hG d_M_tree_63 rfl ?_
            refine gx_istore7 (q := 66) hG d_M_tree_64 rfl rfl ?_
            exact Vl (2 * g + 1 - topB m) (topB m + 1) P W (by omega) (by omega) c2 c3 c4 c5
      refine gx_iload4 (q := 36) hG d_M_tree_34 rfl ?_
      refine gx_iload1 (q := 37) hG d_M_tree_36 rfl ?_
      refine gx_icmp_ge (tgt := 164) (q := 40) hG d_M_tree_37 rfl rfl (by omega) (by omega) (fun c37 => ?_) (fun c37 => ?_)
      · exfalso; omega
      · refine gx_iconst (q := 41) hG d_M_tree_40 rfl ?_
        refine gx_istore5 (q := 43) hG d_M_tree_41 rfl rfl ?_
        refine gx_iconst (q := 44) hG d_M_tree_43 rfl ?_
        refine gx_istore6 (q := 46) hG d_M_tree_44 rfl rfl ?_
        exact Iv (lev g) [] [] W o7 rfl rfl g7 h3 h4 (fun j hj => absurd hj (by simp))
  refine gx_iload1 (q := 1) hG d_M_tree_0 rfl ?_
  refine gx_iconst (q := 2) hG d_M_tree_1 rfl ?_
  refine gx_bipush (q := 4) hG d_M_tree_2 rfl rfl ?_
  refine gw_S3X (q := 7) hG l_M_96 c_M_in (ev_M_in (by omega) (by omega) (by omega)) (by decide) (Nat.le_of_ble_eq_true rfl) d_M_tree_4 rfl (by decide) ?_
  refine gx_if_eq (tgt := 20) (q := 10) hG d_M_tree_7 rfl rfl (bi_R _) (fun c7 => ?_) (fun c7 => ?_)
  · have c7 := bi_eq0.mp c7
    refine gx_iconst (q := 21) hG d_M_tree_20 rfl ?_
    refine gx_ireturn hG d_M_tree_21 rfl rfl ?_
    refine ⟨_, rfl, _, rfl, ?_⟩
    unfold sp_tree; rw [if_pos (by omega)]; exact PM_id
  · have c7 := bi_ne0.mp c7
    refine gx_iload2 (q := 11) hG d_M_tree_10 rfl ?_
    refine gx_iconst (q := 12) hG d_M_tree_11 rfl ?_
    refine gx_bipush (q := 14) hG d_M_tree_12 rfl rfl ?_
    refine gw_S3X (q := 17) hG l_M_96 c_M_in (ev_M_in (by omega) (by omega) (by omega)) (by decide) (Nat.le_of_ble_eq_true rfl) d_M_tree_14 rfl (by decide) ?_
    refine gx_if_ne (tgt := 22) (q := 20) hG d_M_tree_17 rfl rfl (bi_R _) (fun c17 => ?_) (fun c17 => ?_)
    · have c17 := bi_ne0.mp c17
      refine gx_aload0 (q := 23) hG d_M_tree_22 rfl ?_
      refine gx_get (q := 26) hG f_M_82 hpM rfl d_M_tree_23 rfl ?_
      refine gx_iconst (q := 27) hG d_M_tree_26 rfl ?_
      refine gx_iconst (q := 28) hG d_M_tree_27 rfl ?_
      refine gw_iast (q := 29) hG rfl (by omega) (by omega) d_M_tree_28 rfl ?_
      refine gx_iconst (q := 30) hG d_M_tree_29 rfl ?_
      refine gx_istore3 (q := 31) hG d_M_tree_30 rfl rfl ?_
      refine gx_iconst (q := 32) hG d_M_tree_31 rfl ?_
      refine gx_istore4 (q := 34) hG d_M_tree_32 rfl rfl ?_
      obtain ⟨nn, hnn⟩ := Int.eq_ofNat_of_zero_le (show 0 ≤ n by omega)
      obtain ⟨ff, hff⟩ := Int.eq_ofNat_of_zero_le (show 0 ≤ f by omega)
      exact L nn 0 nn ff _ none none none (by omega) (by omega) (by omega) hnn hff rfl rfl rfl (fun b b1 b2 => by rw [wu_ne b1]) (fun j hj => by
        have hj : j < 1 := hj
        rw [show j = 0 by omega, show ((0 : Nat) : Int) = 0 from rfl, wu_eq]
        rfl)
    · have c17 := bi_eq0.mp c17
      refine gx_iconst (q := 21) hG d_M_tree_20 rfl ?_
      refine gx_ireturn hG d_M_tree_21 rfl rfl ?_
      refine ⟨_, rfl, _, rfl, ?_⟩
      unfold sp_tree; rw [if_pos (by omega)]; exact PM_id

