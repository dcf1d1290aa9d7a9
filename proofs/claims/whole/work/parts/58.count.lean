/-! part 58: counts -/
noncomputable def cb (P : Int → Prop) : Nat → Int
  | 0 => 0
  | k + 1 => cb P k + bi (P (k : Int))
theorem cb_congr {P Q : Int → Prop} : ∀ k : Nat, (∀ i : Int, 0 ≤ i → i < k → (P i ↔ Q i)) → cb P k = cb Q k
  | 0, _ => rfl
  | k + 1, h => by
    unfold cb
    rw [cb_congr k (fun i i0 i1 => h i i0 (by omega)), bi_congr (h k (by omega) (by omega))]
theorem cb_none {P : Int → Prop} : ∀ k : Nat, (∀ i : Int, 0 ≤ i → i < k → ¬ P i) → cb P k = 0
  | 0, _ => rfl
  | k + 1, h => by
    unfold cb
    rw [cb_none k (fun i i0 i1 => h i i0 (by omega)), bi_f (h k (by omega) (by omega))]
    rfl
theorem cb_bd {P : Int → Prop} : ∀ k : Nat, 0 ≤ cb P k ∧ cb P k ≤ k
  | 0 => by unfold cb; omega
  | k + 1 => by
    have h := cb_bd (P := P) k
    unfold cb
    have := bi_01 (P (k : Int))
    omega
def kdP (s : Sta) (x p : Int) : Prop := (x = 3 ∧ (s 6 p = 1 ∨ s 6 p = 4)) ∨ (x = 4 ∧ (s 6 p = 2 ∨ s 6 p = 5))
noncomputable def cntS (s : Sta) (x : Int) : Int := if x = 0 then s 4 2 else if x = 1 then s 4 1 else if x = 2 then leftS s else cb (kdP s x) (s 4 2).toNat + cb (fun k => x = 5 ∧ 0 ≤ s 8 k) 3 + cb (fun r => x = 6 ∧ 0 ≤ s 0 r) 6 + cb (fun t => x = 7 ∧ 0 ≤ s 2 t) 4
noncomputable def sp_count (s : Sta) (x : Int) : Int := if 0 ≤ x ∧ x ≤ 7 then cntS s x else -1
def isK (p k : Int) : Prop := (k = 1 ∧ (p = 1 ∨ p = 4)) ∨ (k = 2 ∧ (p = 2 ∨ p = 5)) ∨ (k = 3 ∧ p = 3) ∨ (k = 4 ∧ p = 4) ∨ (k = 5 ∧ p = 5)
theorem ev_X_isOf {w : Mem} {p k : Int} (hp0 : 0 ≤ p ∧ p ≤ 5) (hk : 1 ≤ k ∧ k ≤ 5) : EvX y_X_isOf b_X_isOf 2 (some .boolean) (1) [Vr (8 + p), Vi k] w (Vi (bi (isK p k))) := by
  refine Ev.mk (isI := false) (by decide +kernel) nofun (Nat.le_of_ble_eq_true rfl) (fun G hG => ?_)
  show G 0 [some (Vr (8 + p)), some (Vi k)] [] 102 (hp w)
  rcases (show p = 0 ∨ p = 1 ∨ p = 2 ∨ p = 3 ∨ p = 4 ∨ p = 5 by omega) with rfl | rfl | rfl | rfl | rfl | rfl
  · skip
    refine gx_iload1 (q := 1) hG d_X_isOf_0 rfl ?_
    refine gx_tsw (tgt := 52) hG d_X_isOf_1 (by omega) (by decide) rfl (fun c1 => ?_) (fun i9 o9 h9 c1 => ?_)
    · refine gx_aload0 (q := 53) hG d_X_isOf_52 rfl ?_
      first
        | refine gx_instS (q := 56) hG t_X_48 (hpPl (k := 0) (by omega)) rfl d_X_isOf_53 rfl ?_
        | refine gx_instN (q := 56) hG t_X_48 (show ("WhoSaysOne$Player", "WhoSaysOne$Chance") ∈ ncL by decide +kernel) (hpPl (k := 0) (by omega)) rfl d_X_isOf_53 rfl ?_
      refine gx_zreturn hG d_X_isOf_56 rfl rfl (by first | exact bi_01 _ | decide | omega) ?_
      first
        | exact ⟨w, rfl, by rw [bi_t (by unfold isK; omega)], rfl⟩
        | exact ⟨w, rfl, by rw [bi_f (by unfold isK; omega)], rfl⟩
    · match i9, h9 with
      | 0, h9 =>
        cases h9
        have c1 : _ = (1 : Int) := c1
        refine ⟨32, rfl, ?_⟩
        refine gx_aload0 (q := 33) hG d_X_isOf_32 rfl ?_
        first
          | refine gx_instS (q := 36) hG t_X_36 (hpPl (k := 0) (by omega)) rfl d_X_isOf_33 rfl ?_
          | refine gx_instN (q := 36) hG t_X_36 (show ("WhoSaysOne$Player", "WhoSaysOne$Small") ∈ ncL by decide +kernel) (hpPl (k := 0) (by omega)) rfl d_X_isOf_33 rfl ?_
        refine gx_zreturn hG d_X_isOf_36 rfl rfl (by first | exact bi_01 _ | decide | omega) ?_
        first
          | exact ⟨w, rfl, by rw [bi_t (by unfold isK; omega)], rfl⟩
          | exact ⟨w, rfl, by rw [bi_f (by unfold isK; omega)], rfl⟩
      | 1, h9 =>
        cases h9
        have c1 : _ = (2 : Int) := c1
        refine ⟨37, rfl, ?_⟩
        refine gx_aload0 (q := 38) hG d_X_isOf_37 rfl ?_
        first
          | refine gx_instS (q := 41) hG t_X_39 (hpPl (k := 0) (by omega)) rfl d_X_isOf_38 rfl ?_
          | refine gx_instN (q := 41) hG t_X_39 (show ("WhoSaysOne$Player", "WhoSaysOne$Pair") ∈ ncL by decide +kernel) (hpPl (k := 0) (by omega)) rfl d_X_isOf_38 rfl ?_
        refine gx_zreturn hG d_X_isOf_41 rfl rfl (by first | exact bi_01 _ | decide | omega) ?_
        first
          | exact ⟨w, rfl, by rw [bi_t (by unfold isK; omega)], rfl⟩
          | exact ⟨w, rfl, by rw [bi_f (by unfold isK; omega)], rfl⟩
      | 2, h9 =>
        cases h9
        have c1 : _ = (3 : Int) := c1
        refine ⟨42, rfl, ?_⟩
        refine gx_aload0 (q := 43) hG d_X_isOf_42 rfl ?_
        first
          | refine gx_instS (q := 46) hG t_X_42 (hpPl (k := 0) (by omega)) rfl d_X_isOf_43 rfl ?_
          | refine gx_instN (q := 46) hG t_X_42 (show ("WhoSaysOne$Player", "WhoSaysOne$Best") ∈ ncL by decide +kernel) (hpPl (k := 0) (by omega)) rfl d_X_isOf_43 rfl ?_
        refine gx_zreturn hG d_X_isOf_46 rfl rfl (by first | exact bi_01 _ | decide | omega) ?_
        first
          | exact ⟨w, rfl, by rw [bi_t (by unfold isK; omega)], rfl⟩
          | exact ⟨w, rfl, by rw [bi_f (by unfold isK; omega)], rfl⟩
      | 3, h9 =>
        cases h9
        have c1 : _ = (4 : Int) := c1
        refine ⟨47, rfl, ?_⟩
        refine gx_aload0 (q := 48) hG d_X_isOf_47 rfl ?_
        first
          | refine gx_instS (q := 51) hG t_X_45 (hpPl (k := 0) (by omega)) rfl d_X_isOf_48 rfl ?_
          | refine gx_instN (q := 51) hG t_X_45 (show ("WhoSaysOne$Player", "WhoSaysOne$Longer") ∈ ncL by decide +kernel) (hpPl (k := 0) (by omega)) rfl d_X_isOf_48 rfl ?_
        refine gx_zreturn hG d_X_isOf_51 rfl rfl (by first | exact bi_01 _ | decide | omega) ?_
        first
          | exact ⟨w, rfl, by rw [bi_t (by unfold isK; omega)], rfl⟩
          | exact ⟨w, rfl, by rw [bi_f (by unfold isK; omega)], rfl⟩
      | i9 + 4, h9 => simp at h9
  · skip
    refine gx_iload1 (q := 1) hG d_X_isOf_0 rfl ?_
    refine gx_tsw (tgt := 52) hG d_X_isOf_1 (by omega) (by decide) rfl (fun c1 => ?_) (fun i9 o9 h9 c1 => ?_)
    · refine gx_aload0 (q := 53) hG d_X_isOf_52 rfl ?_
      first
        | refine gx_instS (q := 56) hG t_X_48 (hpPl (k := 1) (by omega)) rfl d_X_isOf_53 rfl ?_
        | refine gx_instN (q := 56) hG t_X_48 (show ("WhoSaysOne$Small", "WhoSaysOne$Chance") ∈ ncL by decide +kernel) (hpPl (k := 1) (by omega)) rfl d_X_isOf_53 rfl ?_
      refine gx_zreturn hG d_X_isOf_56 rfl rfl (by first | exact bi_01 _ | decide | omega) ?_
      first
        | exact ⟨w, rfl, by rw [bi_t (by unfold isK; omega)], rfl⟩
        | exact ⟨w, rfl, by rw [bi_f (by unfold isK; omega)], rfl⟩
    · match i9, h9 with
      | 0, h9 =>
        cases h9
        have c1 : _ = (1 : Int) := c1
        refine ⟨32, rfl, ?_⟩
        refine gx_aload0 (q := 33) hG d_X_isOf_32 rfl ?_
        first
          | refine gx_instS (q := 36) hG t_X_36 (hpPl (k := 1) (by omega)) rfl d_X_isOf_33 rfl ?_
          | refine gx_instN (q := 36) hG t_X_36 (show ("WhoSaysOne$Small", "WhoSaysOne$Small") ∈ ncL by decide +kernel) (hpPl (k := 1) (by omega)) rfl d_X_isOf_33 rfl ?_
        refine gx_zreturn hG d_X_isOf_36 rfl rfl (by first | exact bi_01 _ | decide | omega) ?_
        first
          | exact ⟨w, rfl, by rw [bi_t (by unfold isK; omega)], rfl⟩
          | exact ⟨w, rfl, by rw [bi_f (by unfold isK; omega)], rfl⟩
      | 1, h9 =>
        cases h9
        have c1 : _ = (2 : Int) := c1
        refine ⟨37, rfl, ?_⟩
        refine gx_aload0 (q := 38) hG d_X_isOf_37 rfl ?_
        first
          | refine gx_instS (q := 41) hG t_X_39 (hpPl (k := 1) (by omega)) rfl d_X_isOf_38 rfl ?_
          | refine gx_instN (q := 41) hG t_X_39 (show ("WhoSaysOne$Small", "WhoSaysOne$Pair") ∈ ncL by decide +kernel) (hpPl (k := 1) (by omega)) rfl d_X_isOf_38 rfl ?_
        refine gx_zreturn hG d_X_isOf_41 rfl rfl (by first | exact bi_01 _ | decide | omega) ?_
        first
          | exact ⟨w, rfl, by rw [bi_t (by unfold isK; omega)], rfl⟩
          | exact ⟨w, rfl, by rw [bi_f (by unfold isK; omega)], rfl⟩
      | 2, h9 =>
        cases h9
        have c1 : _ = (3 : Int) := c1
        refine ⟨42, rfl, ?_⟩
        refine gx_aload0 (q := 43) hG d_X_isOf_42 rfl ?_
        first
          | refine gx_instS (q := 46) hG t_X_42 (hpPl (k := 1) (by omega)) rfl d_X_isOf_43 rfl ?_
          | refine gx_instN (q := 46) hG t_X_42 (show ("WhoSaysOne$Small", "WhoSaysOne$Best") ∈ ncL by decide +kernel) (hpPl (k := 1) (by omega)) rfl d_X_isOf_43 rfl ?_
        refine gx_zreturn hG d_X_isOf_46 rfl rfl (by first | exact bi_01 _ | decide | omega) ?_
        first
          | exact ⟨w, rfl, by rw [bi_t (by unfold isK; omega)], rfl⟩
          | exact ⟨w, rfl, by rw [bi_f (by unfold isK; omega)], rfl⟩
      | 3, h9 =>
        cases h9
        have c1 : _ = (4 : Int) := c1
        refine ⟨47, rfl, ?_⟩
        refine gx_aload0 (q := 48) hG d_X_isOf_47 rfl ?_
        first
          | refine gx_instS (q := 51) hG t_X_45 (hpPl (k := 1) (by omega)) rfl d_X_isOf_48 rfl ?_
          | refine gx_instN (q := 51) hG t_X_45 (show ("WhoSaysOne$Small", "WhoSaysOne$Longer") ∈ ncL by decide +kernel) (hpPl (k := 1) (by omega)) rfl d_X_isOf_48 rfl ?_
        refine gx_zreturn hG d_X_isOf_51 rfl rfl (by first | exact bi_01 _ | decide | omega) ?_
        first
          | exact ⟨w, rfl, by rw [bi_t (by unfold isK; omega)], rfl⟩
          | exact ⟨w, rfl, by rw [bi_f (by unfold isK; omega)], rfl⟩
      | i9 + 4, h9 => simp at h9
  · skip
    refine gx_iload1 (q := 1) hG d_X_isOf_0 rfl ?_
    refine gx_tsw (tgt := 52) hG d_X_isOf_1 (by omega) (by decide) rfl (fun c1 => ?_) (fun i9 o9 h9 c1 => ?_)
    · refine gx_aload0 (q := 53) hG d_X_isOf_52 rfl ?_
      first
        | refine gx_instS (q := 56) hG t_X_48 (hpPl (k := 2) (by omega)) rfl d_X_isOf_53 rfl ?_
        | refine gx_instN (q := 56) hG t_X_48 (show ("WhoSaysOne$Pair", "WhoSaysOne$Chance") ∈ ncL by decide +kernel) (hpPl (k := 2) (by omega)) rfl d_X_isOf_53 rfl ?_
      refine gx_zreturn hG d_X_isOf_56 rfl rfl (by first | exact bi_01 _ | decide | omega) ?_
      first
        | exact ⟨w, rfl, by rw [bi_t (by unfold isK; omega)], rfl⟩
        | exact ⟨w, rfl, by rw [bi_f (by unfold isK; omega)], rfl⟩
    · match i9, h9 with
      | 0, h9 =>
        cases h9
        have c1 : _ = (1 : Int) := c1
        refine ⟨32, rfl, ?_⟩
        refine gx_aload0 (q := 33) hG d_X_isOf_32 rfl ?_
        first
          | refine gx_instS (q := 36) hG t_X_36 (hpPl (k := 2) (by omega)) rfl d_X_isOf_33 rfl ?_
          | refine gx_instN (q := 36) hG t_X_36 (show ("WhoSaysOne$Pair", "WhoSaysOne$Small") ∈ ncL by decide +kernel) (hpPl (k := 2) (by omega)) rfl d_X_isOf_33 rfl ?_
        refine gx_zreturn hG d_X_isOf_36 rfl rfl (by first | exact bi_01 _ | decide | omega) ?_
        first
          | exact ⟨w, rfl, by rw [bi_t (by unfold isK; omega)], rfl⟩
          | exact ⟨w, rfl, by rw [bi_f (by unfold isK; omega)], rfl⟩
      | 1, h9 =>
        cases h9
        have c1 : _ = (2 : Int) := c1
        refine ⟨37, rfl, ?_⟩
        refine gx_aload0 (q := 38) hG d_X_isOf_37 rfl ?_
        first
          | refine gx_instS (q := 41) hG t_X_39 (hpPl (k := 2) (by omega)) rfl d_X_isOf_38 rfl ?_
          | refine gx_instN (q := 41) hG t_X_39 (show ("WhoSaysOne$Pair", "WhoSaysOne$Pair") ∈ ncL by decide +kernel) (hpPl (k := 2) (by omega)) rfl d_X_isOf_38 rfl ?_
        refine gx_zreturn hG d_X_isOf_41 rfl rfl (by first | exact bi_01 _ | decide | omega) ?_
        first
          | exact ⟨w, rfl, by rw [bi_t (by unfold isK; omega)], rfl⟩
          | exact ⟨w, rfl, by rw [bi_f (by unfold isK; omega)], rfl⟩
      | 2, h9 =>
        cases h9
        have c1 : _ = (3 : Int) := c1
        refine ⟨42, rfl, ?_⟩
        refine gx_aload0 (q := 43) hG d_X_isOf_42 rfl ?_
        first
          | refine gx_instS (q := 46) hG t_X_42 (hpPl (k := 2) (by omega)) rfl d_X_isOf_43 rfl ?_
          | refine gx_instN (q := 46) hG t_X_42 (show ("WhoSaysOne$Pair", "WhoSaysOne$Best") ∈ ncL by decide +kernel) (hpPl (k := 2) (by omega)) rfl d_X_isOf_43 rfl ?_
        refine gx_zreturn hG d_X_isOf_46 rfl rfl (by first | exact bi_01 _ | decide | omega) ?_
        first
          | exact ⟨w, rfl, by rw [bi_t (by unfold isK; omega)], rfl⟩
          | exact ⟨w, rfl, by rw [bi_f (by unfold isK; omega)], rfl⟩
      | 3, h9 =>
        cases h9
        have c1 : _ = (4 : Int) := c1
        refine ⟨47, rfl, ?_⟩
        refine gx_aload0 (q := 48) hG d_X_isOf_47 rfl ?_
        first
          | refine gx_instS (q := 51) hG t_X_45 (hpPl (k := 2) (by omega)) rfl d_X_isOf_48 rfl ?_
          | refine gx_instN (q := 51) hG t_X_45 (show ("WhoSaysOne$Pair", "WhoSaysOne$Longer") ∈ ncL by decide +kernel) (hpPl (k := 2) (by omega)) rfl d_X_isOf_48 rfl ?_
        refine gx_zreturn hG d_X_isOf_51 rfl rfl (by first | exact bi_01 _ | decide | omega) ?_
        first
          | exact ⟨w, rfl, by rw [bi_t (by unfold isK; omega)], rfl⟩
          | exact ⟨w, rfl, by rw [bi_f (by unfold isK; omega)], rfl⟩
      | i9 + 4, h9 => simp at h9
  · skip
    refine gx_iload1 (q := 1) hG d_X_isOf_0 rfl ?_
    refine gx_tsw (tgt := 52) hG d_X_isOf_1 (by omega) (by decide) rfl (fun c1 => ?_) (fun i9 o9 h9 c1 => ?_)
    · refine gx_aload0 (q := 53) hG d_X_isOf_52 rfl ?_
      first
        | refine gx_instS (q := 56) hG t_X_48 (hpPl (k := 3) (by omega)) rfl d_X_isOf_53 rfl ?_
        | refine gx_instN (q := 56) hG t_X_48 (show ("WhoSaysOne$Best", "WhoSaysOne$Chance") ∈ ncL by decide +kernel) (hpPl (k := 3) (by omega)) rfl d_X_isOf_53 rfl ?_
      refine gx_zreturn hG d_X_isOf_56 rfl rfl (by first | exact bi_01 _ | decide | omega) ?_
      first
        | exact ⟨w, rfl, by rw [bi_t (by unfold isK; omega)], rfl⟩
        | exact ⟨w, rfl, by rw [bi_f (by unfold isK; omega)], rfl⟩
    · match i9, h9 with
      | 0, h9 =>
        cases h9
        have c1 : _ = (1 : Int) := c1
        refine ⟨32, rfl, ?_⟩
        refine gx_aload0 (q := 33) hG d_X_isOf_32 rfl ?_
        first
          | refine gx_instS (q := 36) hG t_X_36 (hpPl (k := 3) (by omega)) rfl d_X_isOf_33 rfl ?_
          | refine gx_instN (q := 36) hG t_X_36 (show ("WhoSaysOne$Best", "WhoSaysOne$Small") ∈ ncL by decide +kernel) (hpPl (k := 3) (by omega)) rfl d_X_isOf_33 rfl ?_
        refine gx_zreturn hG d_X_isOf_36 rfl rfl (by first | exact bi_01 _ | decide | omega) ?_
        first
          | exact ⟨w, rfl, by rw [bi_t (by unfold isK; omega)], rfl⟩
          | exact ⟨w, rfl, by rw [bi_f (by unfold isK; omega)], rfl⟩
      | 1, h9 =>
        cases h9
        have c1 : _ = (2 : Int) := c1
        refine ⟨37, rfl, ?_⟩
        refine gx_aload0 (q := 38) hG d_X_isOf_37 rfl ?_
        first
          | refine gx_instS (q := 41) hG t_X_39 (hpPl (k := 3) (by omega)) rfl d_X_isOf_38 rfl ?_
          | refine gx_instN (q := 41) hG t_X_39 (show ("WhoSaysOne$Best", "WhoSaysOne$Pair") ∈ ncL by decide +kernel) (hpPl (k := 3) (by omega)) rfl d_X_isOf_38 rfl ?_
        refine gx_zreturn hG d_X_isOf_41 rfl rfl (by first | exact bi_01 _ | decide | omega) ?_
        first
          | exact ⟨w, rfl, by rw [bi_t (by unfold isK; omega)], rfl⟩
          | exact ⟨w, rfl, by rw [bi_f (by unfold isK; omega)], rfl⟩
      | 2, h9 =>
        cases h9
        have c1 : _ = (3 : Int) := c1
        refine ⟨42, rfl, ?_⟩
        refine gx_aload0 (q := 43) hG d_X_isOf_42 rfl ?_
        first
          | refine gx_instS (q := 46) hG t_X_42 (hpPl (k := 3) (by omega)) rfl d_X_isOf_43 rfl ?_
          | refine gx_instN (q := 46) hG t_X_42 (show ("WhoSaysOne$Best", "WhoSaysOne$Best") ∈ ncL by decide +kernel) (hpPl (k := 3) (by omega)) rfl d_X_isOf_43 rfl ?_
        refine gx_zreturn hG d_X_isOf_46 rfl rfl (by first | exact bi_01 _ | decide | omega) ?_
        first
          | exact ⟨w, rfl, by rw [bi_t (by unfold isK; omega)], rfl⟩
          | exact ⟨w, rfl, by rw [bi_f (by unfold isK; omega)], rfl⟩
      | 3, h9 =>
        cases h9
        have c1 : _ = (4 : Int) := c1
        refine ⟨47, rfl, ?_⟩
        refine gx_aload0 (q := 48) hG d_X_isOf_47 rfl ?_
        first
          | refine gx_instS (q := 51) hG t_X_45 (hpPl (k := 3) (by omega)) rfl d_X_isOf_48 rfl ?_
          | refine gx_instN (q := 51) hG t_X_45 (show ("WhoSaysOne$Best", "WhoSaysOne$Longer") ∈ ncL by decide +kernel) (hpPl (k := 3) (by omega)) rfl d_X_isOf_48 rfl ?_
        refine gx_zreturn hG d_X_isOf_51 rfl rfl (by first | exact bi_01 _ | decide | omega) ?_
        first
          | exact ⟨w, rfl, by rw [bi_t (by unfold isK; omega)], rfl⟩
          | exact ⟨w, rfl, by rw [bi_f (by unfold isK; omega)], rfl⟩
      | i9 + 4, h9 => simp at h9
  · skip
    refine gx_iload1 (q := 1) hG d_X_isOf_0 rfl ?_
    refine gx_tsw (tgt := 52) hG d_X_isOf_1 (by omega) (by decide) rfl (fun c1 => ?_) (fun i9 o9 h9 c1 => ?_)
    · refine gx_aload0 (q := 53) hG d_X_isOf_52 rfl ?_
      first
        | refine gx_instS (q := 56) hG t_X_48 (hpPl (k := 4) (by omega)) rfl d_X_isOf_53 rfl ?_
        | refine gx_instN (q := 56) hG t_X_48 (show ("WhoSaysOne$Longer", "WhoSaysOne$Chance") ∈ ncL by decide +kernel) (hpPl (k := 4) (by omega)) rfl d_X_isOf_53 rfl ?_
      refine gx_zreturn hG d_X_isOf_56 rfl rfl (by first | exact bi_01 _ | decide | omega) ?_
      first
        | exact ⟨w, rfl, by rw [bi_t (by unfold isK; omega)], rfl⟩
        | exact ⟨w, rfl, by rw [bi_f (by unfold isK; omega)], rfl⟩
    · match i9, h9 with
      | 0, h9 =>
        cases h9
        have c1 : _ = (1 : Int) := c1
        refine ⟨32, rfl, ?_⟩
        refine gx_aload0 (q := 33) hG d_X_isOf_32 rfl ?_
        first
          | refine gx_instS (q := 36) hG t_X_36 (hpPl (k := 4) (by omega)) rfl d_X_isOf_33 rfl ?_
          | refine gx_instN (q := 36) hG t_X_36 (show ("WhoSaysOne$Longer", "WhoSaysOne$Small") ∈ ncL by decide +kernel) (hpPl (k := 4) (by omega)) rfl d_X_isOf_33 rfl ?_
          | refine gx_instY (q := 36) hG t_X_36 ca_Lo_Sm (hpPl (k := 4) (by omega)) rfl d_X_isOf_33 rfl ?_
        refine gx_zreturn hG d_X_isOf_36 rfl rfl (by first | exact bi_01 _ | decide | omega) ?_
        first
          | exact ⟨w, rfl, by rw [bi_t (by unfold isK; omega)], rfl⟩
          | exact ⟨w, rfl, by rw [bi_f (by unfold isK; omega)], rfl⟩
      | 1, h9 =>
        cases h9
        have c1 : _ = (2 : Int) := c1
        refine ⟨37, rfl, ?_⟩
        refine gx_aload0 (q := 38) hG d_X_isOf_37 rfl ?_
        first
          | refine gx_instS (q := 41) hG t_X_39 (hpPl (k := 4) (by omega)) rfl d_X_isOf_38 rfl ?_
          | refine gx_instN (q := 41) hG t_X_39 (show ("WhoSaysOne$Longer", "WhoSaysOne$Pair") ∈ ncL by decide +kernel) (hpPl (k := 4) (by omega)) rfl d_X_isOf_38 rfl ?_
        refine gx_zreturn hG d_X_isOf_41 rfl rfl (by first | exact bi_01 _ | decide | omega) ?_
        first
          | exact ⟨w, rfl, by rw [bi_t (by unfold isK; omega)], rfl⟩
          | exact ⟨w, rfl, by rw [bi_f (by unfold isK; omega)], rfl⟩
      | 2, h9 =>
        cases h9
        have c1 : _ = (3 : Int) := c1
        refine ⟨42, rfl, ?_⟩
        refine gx_aload0 (q := 43) hG d_X_isOf_42 rfl ?_
        first
          | refine gx_instS (q := 46) hG t_X_42 (hpPl (k := 4) (by omega)) rfl d_X_isOf_43 rfl ?_
          | refine gx_instN (q := 46) hG t_X_42 (show ("WhoSaysOne$Longer", "WhoSaysOne$Best") ∈ ncL by decide +kernel) (hpPl (k := 4) (by omega)) rfl d_X_isOf_43 rfl ?_
        refine gx_zreturn hG d_X_isOf_46 rfl rfl (by first | exact bi_01 _ | decide | omega) ?_
        first
          | exact ⟨w, rfl, by rw [bi_t (by unfold isK; omega)], rfl⟩
          | exact ⟨w, rfl, by rw [bi_f (by unfold isK; omega)], rfl⟩
      | 3, h9 =>
        cases h9
        have c1 : _ = (4 : Int) := c1
        refine ⟨47, rfl, ?_⟩
        refine gx_aload0 (q := 48) hG d_X_isOf_47 rfl ?_
        first
          | refine gx_instS (q := 51) hG t_X_45 (hpPl (k := 4) (by omega)) rfl d_X_isOf_48 rfl ?_
          | refine gx_instN (q := 51) hG t_X_45 (show ("WhoSaysOne$Longer", "WhoSaysOne$Longer") ∈ ncL by decide +kernel) (hpPl (k := 4) (by omega)) rfl d_X_isOf_48 rfl ?_
        refine gx_zreturn hG d_X_isOf_51 rfl rfl (by first | exact bi_01 _ | decide | omega) ?_
        first
          | exact ⟨w, rfl, by rw [bi_t (by unfold isK; omega)], rfl⟩
          | exact ⟨w, rfl, by rw [bi_f (by unfold isK; omega)], rfl⟩
      | i9 + 4, h9 => simp at h9
  · skip
    refine gx_iload1 (q := 1) hG d_X_isOf_0 rfl ?_
    refine gx_tsw (tgt := 52) hG d_X_isOf_1 (by omega) (by decide) rfl (fun c1 => ?_) (fun i9 o9 h9 c1 => ?_)
    · refine gx_aload0 (q := 53) hG d_X_isOf_52 rfl ?_
      first
        | refine gx_instS (q := 56) hG t_X_48 (hpPl (k := 5) (by omega)) rfl d_X_isOf_53 rfl ?_
        | refine gx_instN (q := 56) hG t_X_48 (show ("WhoSaysOne$Chance", "WhoSaysOne$Chance") ∈ ncL by decide +kernel) (hpPl (k := 5) (by omega)) rfl d_X_isOf_53 rfl ?_
      refine gx_zreturn hG d_X_isOf_56 rfl rfl (by first | exact bi_01 _ | decide | omega) ?_
      first
        | exact ⟨w, rfl, by rw [bi_t (by unfold isK; omega)], rfl⟩
        | exact ⟨w, rfl, by rw [bi_f (by unfold isK; omega)], rfl⟩
    · match i9, h9 with
      | 0, h9 =>
        cases h9
        have c1 : _ = (1 : Int) := c1
        refine ⟨32, rfl, ?_⟩
        refine gx_aload0 (q := 33) hG d_X_isOf_32 rfl ?_
        first
          | refine gx_instS (q := 36) hG t_X_36 (hpPl (k := 5) (by omega)) rfl d_X_isOf_33 rfl ?_
          | refine gx_instN (q := 36) hG t_X_36 (show ("WhoSaysOne$Chance", "WhoSaysOne$Small") ∈ ncL by decide +kernel) (hpPl (k := 5) (by omega)) rfl d_X_isOf_33 rfl ?_
        refine gx_zreturn hG d_X_isOf_36 rfl rfl (by first | exact bi_01 _ | decide | omega) ?_
        first
          | exact ⟨w, rfl, by rw [bi_t (by unfold isK; omega)], rfl⟩
          | exact ⟨w, rfl, by rw [bi_f (by unfold isK; omega)], rfl⟩
      | 1, h9 =>
        cases h9
        have c1 : _ = (2 : Int) := c1
        refine ⟨37, rfl, ?_⟩
        refine gx_aload0 (q := 38) hG d_X_isOf_37 rfl ?_
        first
          | refine gx_instS (q := 41) hG t_X_39 (hpPl (k := 5) (by omega)) rfl d_X_isOf_38 rfl ?_
          | refine gx_instN (q := 41) hG t_X_39 (show ("WhoSaysOne$Chance", "WhoSaysOne$Pair") ∈ ncL by decide +kernel) (hpPl (k := 5) (by omega)) rfl d_X_isOf_38 rfl ?_
          | refine gx_instY (q := 41) hG t_X_39 ca_Ch_Pr (hpPl (k := 5) (by omega)) rfl d_X_isOf_38 rfl ?_
        refine gx_zreturn hG d_X_isOf_41 rfl rfl (by first | exact bi_01 _ | decide | omega) ?_
        first
          | exact ⟨w, rfl, by rw [bi_t (by unfold isK; omega)], rfl⟩
          | exact ⟨w, rfl, by rw [bi_f (by unfold isK; omega)], rfl⟩
      | 2, h9 =>
        cases h9
        have c1 : _ = (3 : Int) := c1
        refine ⟨42, rfl, ?_⟩
        refine gx_aload0 (q := 43) hG d_X_isOf_42 rfl ?_
        first
          | refine gx_instS (q := 46) hG t_X_42 (hpPl (k := 5) (by omega)) rfl d_X_isOf_43 rfl ?_
          | refine gx_instN (q := 46) hG t_X_42 (show ("WhoSaysOne$Chance", "WhoSaysOne$Best") ∈ ncL by decide +kernel) (hpPl (k := 5) (by omega)) rfl d_X_isOf_43 rfl ?_
        refine gx_zreturn hG d_X_isOf_46 rfl rfl (by first | exact bi_01 _ | decide | omega) ?_
        first
          | exact ⟨w, rfl, by rw [bi_t (by unfold isK; omega)], rfl⟩
          | exact ⟨w, rfl, by rw [bi_f (by unfold isK; omega)], rfl⟩
      | 3, h9 =>
        cases h9
        have c1 : _ = (4 : Int) := c1
        refine ⟨47, rfl, ?_⟩
        refine gx_aload0 (q := 48) hG d_X_isOf_47 rfl ?_
        first
          | refine gx_instS (q := 51) hG t_X_45 (hpPl (k := 5) (by omega)) rfl d_X_isOf_48 rfl ?_
          | refine gx_instN (q := 51) hG t_X_45 (show ("WhoSaysOne$Chance", "WhoSaysOne$Longer") ∈ ncL by decide +kernel) (hpPl (k := 5) (by omega)) rfl d_X_isOf_48 rfl ?_
        refine gx_zreturn hG d_X_isOf_51 rfl rfl (by first | exact bi_01 _ | decide | omega) ?_
        first
          | exact ⟨w, rfl, by rw [bi_t (by unfold isK; omega)], rfl⟩
          | exact ⟨w, rfl, by rw [bi_f (by unfold isK; omega)], rfl⟩
      | i9 + 4, h9 => simp at h9
theorem ev_X_playerAt {w : Mem} {p : Int} (hp0 : 0 ≤ p ∧ p < 2) (hk : 0 ≤ w 14 p ∧ w 14 p ≤ 5) : EvX y_X_playerAt b_X_playerAt 2 (some (.object "WhoSaysOne$Player")) (1) [Vr 0, Vi p] w (Vr (8 + w 14 p)) := by
  refine Ev.mk (isI := false) (by decide +kernel) nofun (Nat.le_of_ble_eq_true rfl) (fun G hG => ?_)
  show G 0 [some (Vr 0), some (Vi p)] [] 102 (hp w)
  refine gx_aload0 (q := 1) hG d_X_playerAt_0 rfl ?_
  refine gx_get (q := 4) hG f_X_51 hpX rfl d_X_playerAt_1 rfl ?_
  refine gx_aload0 (q := 5) hG d_X_playerAt_4 rfl ?_
  refine gx_get (q := 8) hG f_X_55 hpX rfl d_X_playerAt_5 rfl ?_
  refine gx_iload1 (q := 9) hG d_X_playerAt_8 rfl ?_
  refine gw_iald (q := 10) hG rfl (by omega) (by omega) d_X_playerAt_9 rfl ?_
  refine gx_fald (q := 11) hG hpFam (by decide) (by omega) (by omega) (by first | decide | omega) (by first | decide | omega) d_X_playerAt_10 rfl ?_
  refine gx_areturn hG d_X_playerAt_11 ⟨_, rfl⟩ rfl ?_
  exact ⟨_, rfl, rfl, rfl⟩
theorem OK.kd {s : Sta} (h : OK s) : ∀ p, 0 ≤ p → p < s 4 2 → 0 ≤ s 6 p ∧ s 6 p ≤ 5 := h.2.2.2.2.2.2.2.2.1
theorem OK.kx {w : Mem} (h : OK (aX w)) {p : Int} (hp0 : 0 ≤ p ∧ p < w 0 7) : 0 ≤ w 14 p ∧ w 14 p ≤ 5 := by
  have := h.kd p hp0.1 hp0.2
  rw [aX_at6 hp0] at this
  exact this
theorem ev_X_playersOf {w : Mem} {k : Int} (hO : OK (aX w)) (hk : 1 ≤ k ∧ k ≤ 5) : EvX y_X_playersOf b_X_playersOf 4 (some .int) (2) [Vr 0, Vi k] w (Vi (cb (fun p => isK (w 14 p) k) (w 0 7).toNat)) := by
  refine Ev.mk (isI := false) (by decide +kernel) nofun (Nat.le_of_ble_eq_true rfl) (fun G hG => ?_)
  show G 0 [some (Vr 0), some (Vi k), none, none] [] 102 (hp w)
  have hp2 := hO.pc
  have e2 : aX w 4 2 = w 0 7 := rfl
  rw [e2] at hp2
  have L : ∀ (j p : Nat), (p : Int) + j = w 0 7 → G 4 [some (Vr 0), some (Vi k), some (Vi (cb (fun p => isK (w 14 p) k) p)), some (Vi (p : Int))] [] 102 (hp w) := by
    intro j
    induction j with
    | zero =>
      intro p h1
      refine gx_iload3 (q := 5) hG d_X_playersOf_4 rfl ?_
      refine gx_aload0 (q := 6) hG d_X_playersOf_5 rfl ?_
      refine gx_get (q := 9) hG f_X_145 hpX rfl d_X_playersOf_6 rfl ?_
      refine gx_icmp_ge (tgt := 33) (q := 12) hG d_X_playersOf_9 rfl rfl (by omega) (by omega) (fun c9 => ?_) (fun c9 => ?_)
      · refine gx_iload2 (q := 34) hG d_X_playersOf_33 rfl ?_
        refine gx_ireturn hG d_X_playersOf_34 rfl rfl ?_
        exact ⟨_, rfl, by rw [show (w 0 7).toNat = p by omega], rfl⟩
      · exfalso; omega
    | succ j ih =>
      intro p h1
      have hk2 := hO.kx (p := p) (by omega)
      have ce : cb (fun p => isK (w 14 p) k) (p + 1) = cb (fun p => isK (w 14 p) k) p + bi (isK (w 14 p) k) := rfl
      refine gx_iload3 (q := 5) hG d_X_playersOf_4 rfl ?_
      refine gx_aload0 (q := 6) hG d_X_playersOf_5 rfl ?_
      refine gx_get (q := 9) hG f_X_145 hpX rfl d_X_playersOf_6 rfl ?_
      refine gx_icmp_ge (tgt := 33) (q := 12) hG d_X_playersOf_9 rfl rfl (by omega) (by omega) (fun c9 => ?_) (fun c9 => ?_)
      · exfalso; omega
      · refine gx_aload0 (q := 13) hG d_X_playersOf_12 rfl ?_
        refine gx_iload3 (q := 14) hG d_X_playersOf_13 rfl ?_
        refine gw_V1X (q := 17) hG l_X_151 c_X_playerAt (ev_X_playerAt (by omega) hk2) hpX rfl (by decide) (Nat.le_of_ble_eq_true rfl) d_X_playersOf_14 rfl (by decide) ?_
        refine gx_iload1 (q := 18) hG d_X_playersOf_17 rfl ?_
        refine gw_S2X (q := 21) hG l_X_155 c_X_isOf (ev_X_isOf hk2 hk) (by decide) (Nat.le_of_ble_eq_true rfl) d_X_playersOf_18 rfl (by decide) ?_
        refine gx_if_eq (tgt := 27) (q := 24) hG d_X_playersOf_21 rfl rfl (bi_R _) (fun c21 => ?_) (fun c21 => ?_)
        · have c21 := bi_eq0.mp c21
          refine gx_iinc3 (q := 30) hG d_X_playersOf_27 rfl rfl ?_
          refine gx_goto (tgt := 4) hG d_X_playersOf_30 rfl ?_
          have e := ih (p + 1) (by omega)
          rw [ce] at e
          first
            | (rw [bi_t c21] at e; exact e)
            | (rw [bi_f c21, Int.add_zero] at e; exact e)
        · have c21 := bi_ne0.mp c21
          refine gx_iinc2 (q := 27) hG d_X_playersOf_24 rfl rfl ?_
          refine gx_iinc3 (q := 30) hG d_X_playersOf_27 rfl rfl ?_
          refine gx_goto (tgt := 4) hG d_X_playersOf_30 rfl ?_
          have e := ih (p + 1) (by omega)
          rw [ce] at e
          first
            | (rw [bi_t c21] at e; exact e)
            | (rw [bi_f c21, Int.add_zero] at e; exact e)
  refine gx_iconst (q := 1) hG d_X_playersOf_0 rfl ?_
  refine gx_istore2 (q := 2) hG d_X_playersOf_1 rfl rfl ?_
  refine gx_iconst (q := 3) hG d_X_playersOf_2 rfl ?_
  refine gx_istore3 (q := 4) hG d_X_playersOf_3 rfl rfl ?_
  exact L (w 0 7).toNat 0 (by omega)
theorem ev_X_keptCount {w : Mem} (hj : XJ w) : EvX y_X_keptCount b_X_keptCount 3 (some .int) (1) [Vr 0] w (Vi (cb (fun k => w 6 k = 1) 3)) := by
  refine Ev.mk (isI := false) (by decide +kernel) nofun (Nat.le_of_ble_eq_true rfl) (fun G hG => ?_)
  show G 0 [some (Vr 0), none, none] [] 102 (hp w)
  have L : ∀ (j k : Nat), k + j = 3 → G 4 [some (Vr 0), some (Vi (cb (fun k => w 6 k = 1) k)), some (Vi (k : Int))] [] 102 (hp w) := by
    intro j
    induction j with
    | zero =>
      intro k h1
      refine gx_iload2 (q := 5) hG d_X_keptCount_4 rfl ?_
      refine gx_iconst (q := 6) hG d_X_keptCount_5 rfl ?_
      refine gx_icmp_ge (tgt := 27) (q := 9) hG d_X_keptCount_6 rfl rfl (by omega) (by omega) (fun c6 => ?_) (fun c6 => ?_)
      · refine gx_iload1 (q := 28) hG d_X_keptCount_27 rfl ?_
        refine gx_ireturn hG d_X_keptCount_28 rfl rfl ?_
        exact ⟨_, rfl, by rw [show k = 3 by omega], rfl⟩
      · exfalso; omega
    | succ j ih =>
      intro k h1
      have h01 := hj.1 k (by omega) (by omega)
      have ce : cb (fun k => w 6 k = 1) (k + 1) = cb (fun k => w 6 k = 1) k + bi (w 6 k = 1) := rfl
      refine gx_iload2 (q := 5) hG d_X_keptCount_4 rfl ?_
      refine gx_iconst (q := 6) hG d_X_keptCount_5 rfl ?_
      refine gx_icmp_ge (tgt := 27) (q := 9) hG d_X_keptCount_6 rfl rfl (by omega) (by omega) (fun c6 => ?_) (fun c6 => ?_)
      · exfalso; omega
      · refine gx_aload0 (q := 10) hG d_X_keptCount_9 rfl ?_
        refine gx_get (q := 13) hG f_X_29 hpX rfl d_X_keptCount_10 rfl ?_
        refine gx_iload2 (q := 14) hG d_X_keptCount_13 rfl ?_
        refine gw_zald (q := 15) hG rfl (by omega) (by omega) d_X_keptCount_14 rfl ?_
        refine gx_if_eq (tgt := 21) (q := 18) hG d_X_keptCount_15 rfl rfl (by omega) (fun c15 => ?_) (fun c15 => ?_)
        · refine gx_iinc2 (q := 24) hG d_X_keptCount_21 rfl rfl ?_
          refine gx_goto (tgt := 4) hG d_X_keptCount_24 rfl ?_
          have e := ih (k + 1) (by omega)
          rw [ce] at e
          first
            | (rw [bi_t (by omega)] at e; exact e)
            | (rw [bi_f (by omega), Int.add_zero] at e; exact e)
        · refine gx_iinc1 (q := 21) hG d_X_keptCount_18 rfl rfl ?_
          refine gx_iinc2 (q := 24) hG d_X_keptCount_21 rfl rfl ?_
          refine gx_goto (tgt := 4) hG d_X_keptCount_24 rfl ?_
          have e := ih (k + 1) (by omega)
          rw [ce] at e
          first
            | (rw [bi_t (by omega)] at e; exact e)
            | (rw [bi_f (by omega), Int.add_zero] at e; exact e)
  refine gx_iconst (q := 1) hG d_X_keptCount_0 rfl ?_
  refine gx_istore1 (q := 2) hG d_X_keptCount_1 rfl rfl ?_
  refine gx_iconst (q := 3) hG d_X_keptCount_2 rfl ?_
  refine gx_istore2 (q := 4) hG d_X_keptCount_3 rfl rfl ?_
  exact L 3 0 (by omega)
theorem ev_X_thereOf {w : Mem} {x B : Int} {N : Nat} (hA : RA w x B N) : EvX y_X_thereOf b_X_thereOf 3 (some .int) (2) [Vr x] w (Vi (cb (fun r => 0 ≤ w (B + 2 * r) 1) N)) := by
  refine Ev.mk (isI := false) (by decide +kernel) nofun (Nat.le_of_ble_eq_true rfl) (fun G hG => ?_)
  show G 0 [some (Vr x), none, none] [] 102 (hp w)
  obtain ⟨hx, hB, hB2, hN, hS⟩ := hA
  have L : ∀ (j k : Nat), k + j = N → G 4 [some (Vr x), some (Vi (cb (fun r => 0 ≤ w (B + 2 * r) 1) k)), some (Vi (k : Int))] [] 102 (hp w) := by
    intro j
    induction j with
    | zero =>
      intro k h1
      refine gx_iload2 (q := 5) hG d_X_thereOf_4 rfl ?_
      refine gx_aload0 (q := 6) hG d_X_thereOf_5 rfl ?_
      refine gx_alen (q := 7) hG hx (by decide) d_X_thereOf_6 rfl ?_
      refine gx_icmp_ge (tgt := 28) (q := 10) hG d_X_thereOf_7 rfl rfl (by omega) (by omega) (fun c7 => ?_) (fun c7 => ?_)
      · refine gx_iload1 (q := 29) hG d_X_thereOf_28 rfl ?_
        refine gx_ireturn hG d_X_thereOf_29 rfl rfl ?_
        exact ⟨_, rfl, by rw [show k = N by omega], rfl⟩
      · exfalso; omega
    | succ j ih =>
      intro k h1
      have h01 := hS k (by omega) (by omega)
      have ce : cb (fun r => 0 ≤ w (B + 2 * r) 1) (k + 1) = cb (fun r => 0 ≤ w (B + 2 * r) 1) k + bi (0 ≤ w (B + 2 * k) 1) := rfl
      refine gx_iload2 (q := 5) hG d_X_thereOf_4 rfl ?_
      refine gx_aload0 (q := 6) hG d_X_thereOf_5 rfl ?_
      refine gx_alen (q := 7) hG hx (by decide) d_X_thereOf_6 rfl ?_
      refine gx_icmp_ge (tgt := 28) (q := 10) hG d_X_thereOf_7 rfl rfl (by omega) (by omega) (fun c7 => ?_) (fun c7 => ?_)
      · exfalso; omega
      · refine gx_aload0 (q := 11) hG d_X_thereOf_10 rfl ?_
        refine gx_iload2 (q := 12) hG d_X_thereOf_11 rfl ?_
        refine gx_rald (q := 13) hG hx (by decide) (by omega) (by omega) (by first | decide | omega) (by first | decide | omega) d_X_thereOf_12 rfl ?_
        refine gw_V0X (q := 16) hG l_X_118 c_Rw_isThere (ev_Rw_isThere (by first | assumption | omega) (by first | assumption | omega)) (hpRow (by omega)) rfl (by decide) (Nat.le_of_ble_eq_true rfl) d_X_thereOf_13 rfl (by decide) ?_
        refine gx_if_eq (tgt := 22) (q := 19) hG d_X_thereOf_16 rfl rfl (bi_R _) (fun c16 => ?_) (fun c16 => ?_)
        · have c16 := bi_eq0.mp c16
          refine gx_iinc2 (q := 25) hG d_X_thereOf_22 rfl rfl ?_
          refine gx_goto (tgt := 4) hG d_X_thereOf_25 rfl ?_
          have e := ih (k + 1) (by omega)
          rw [ce] at e
          first
            | (rw [bi_t c16] at e; exact e)
            | (rw [bi_f c16, Int.add_zero] at e; exact e)
        · have c16 := bi_ne0.mp c16
          refine gx_iinc1 (q := 22) hG d_X_thereOf_19 rfl rfl ?_
          refine gx_iinc2 (q := 25) hG d_X_thereOf_22 rfl rfl ?_
          refine gx_goto (tgt := 4) hG d_X_thereOf_25 rfl ?_
          have e := ih (k + 1) (by omega)
          rw [ce] at e
          first
            | (rw [bi_t c16] at e; exact e)
            | (rw [bi_f c16, Int.add_zero] at e; exact e)
  refine gx_iconst (q := 1) hG d_X_thereOf_0 rfl ?_
  refine gx_istore1 (q := 2) hG d_X_thereOf_1 rfl rfl ?_
  refine gx_iconst (q := 3) hG d_X_thereOf_2 rfl ?_
  refine gx_istore2 (q := 4) hG d_X_thereOf_3 rfl rfl ?_
  exact L N 0 (by omega)
theorem ev_X_count {w : Mem} {x : Int} (hO : OK (aX w)) (hj : XJ w) (hx : R3 x) : EvX y_X_count b_X_count 2 (some .int) (4) [Vr 0, Vi x] w (Vi (sp_count (aX w) x)) := by
  refine Ev.mk (isI := false) (by decide +kernel) nofun (Nat.le_of_ble_eq_true rfl) (fun G hG => ?_)
  show G 0 [some (Vr 0), some (Vi x)] [] 102 (hp w)
  have hg := hO.gi hj
  have z0 : x ≠ 3 → x ≠ 4 → cb (kdP (aX w) x) (aX w 4 2).toNat = 0 := fun h1 h2 => cb_none _ (fun i _ _ q => by unfold kdP at q; omega)
  have z5 : x ≠ 5 → cb (fun k => x = 5 ∧ 0 ≤ aX w 8 k) 3 = 0 := fun h => cb_none _ (fun i _ _ q => h q.1)
  have z6 : x ≠ 6 → cb (fun k => x = 6 ∧ 0 ≤ aX w 0 k) 6 = 0 := fun h => cb_none _ (fun i _ _ q => h q.1)
  have z7 : x ≠ 7 → cb (fun k => x = 7 ∧ 0 ≤ aX w 2 k) 4 = 0 := fun h => cb_none _ (fun i _ _ q => h q.1)
  have k3 : ∀ i : Int, 0 ≤ i → i < ((w 0 7).toNat : Int) → (isK (w 14 i) 1 ↔ kdP (aX w) 3 i) := fun i i0 i1 => by
    unfold isK kdP
    rw [aX_at6 ⟨i0, by have e : aX w 4 2 = w 0 7 := rfl; omega⟩]
    omega
  have k4 : ∀ i : Int, 0 ≤ i → i < ((w 0 7).toNat : Int) → (isK (w 14 i) 2 ↔ kdP (aX w) 4 i) := fun i i0 i1 => by
    unfold isK kdP
    rw [aX_at6 ⟨i0, by have e : aX w 4 2 = w 0 7 := rfl; omega⟩]
    omega
  have k5 : ∀ i : Int, 0 ≤ i → i < ((3 : Nat) : Int) → (w 6 i = 1 ↔ ((5 : Int) = 5 ∧ 0 ≤ aX w 8 i)) := fun i i0 i1 => by
    by_cases c : w 6 i = 1
    · have := (hj.2.2.1 i i0 (by omega) c).1
      rw [aX_at8 ⟨i0, by omega⟩ c]
      exact ⟨fun _ => ⟨rfl, this⟩, fun _ => c⟩
    · rw [aX_at8n ⟨i0, by omega⟩ c]
      exact ⟨fun q => absurd q c, fun q => by omega⟩
  have k6 : ∀ i : Int, 0 ≤ i → i < ((6 : Nat) : Int) → (0 ≤ w (50 + 2 * i) 1 ↔ ((6 : Int) = 6 ∧ 0 ≤ aX w 0 i)) := fun i i0 i1 => by
    rw [aX_at0 ⟨i0, by omega⟩]
    omega
  have k7 : ∀ i : Int, 0 ≤ i → i < ((4 : Nat) : Int) → (0 ≤ w (62 + 2 * i) 1 ↔ ((7 : Int) = 7 ∧ 0 ≤ aX w 2 i)) := fun i i0 i1 => by
    rw [aX_at2 ⟨i0, by omega⟩]
    omega
  refine gx_iload1 (q := 1) hG d_X_count_0 rfl ?_
  refine gx_tsw (tgt := 102) hG d_X_count_1 (by omega) (by decide) rfl (fun c1 => ?_) (fun i9 o9 h9 c1 => ?_)
  · refine gx_iconst (q := 103) hG d_X_count_102 rfl ?_
    refine gx_ireturn hG d_X_count_103 rfl rfl ?_
    refine ⟨_, rfl, congrArg (fun z => some (Vi z)) ?_, rfl⟩
    unfold sp_count
    first
      | (rw [if_neg (by omega)]; done)
      | (rw [if_pos (by omega)]; unfold cntS; rw [if_pos (by omega)]; exact rfl)
      | (rw [if_pos (by omega)]; unfold cntS; rw [if_neg (by omega), if_pos (by omega)]; exact rfl)
      | (rw [if_pos (by omega)]; unfold cntS; rw [if_neg (by omega), if_neg (by omega), if_pos (by omega)]; exact leftX)
      | (rw [if_pos (by omega)]; unfold cntS; rw [if_neg (by omega), if_neg (by omega), if_neg (by omega), z5 (by omega), z6 (by omega), z7 (by omega), c1]
         first
           | (rw [cb_congr _ k3]; show cb _ (w 0 7).toNat = cb _ (w 0 7).toNat + 0 + 0 + 0; omega)
           | (rw [cb_congr _ k4]; show cb _ (w 0 7).toNat = cb _ (w 0 7).toNat + 0 + 0 + 0; omega))
      | (rw [if_pos (by omega)]; unfold cntS; rw [if_neg (by omega), if_neg (by omega), if_neg (by omega), z0 (by omega) (by omega), z6 (by omega), z7 (by omega), c1, cb_congr _ k5]; omega)
      | (rw [if_pos (by omega)]; unfold cntS; rw [if_neg (by omega), if_neg (by omega), if_neg (by omega), z0 (by omega) (by omega), z5 (by omega), z7 (by omega), c1, cb_congr _ k6]; omega)
      | (rw [if_pos (by omega)]; unfold cntS; rw [if_neg (by omega), if_neg (by omega), if_neg (by omega), z0 (by omega) (by omega), z5 (by omega), z6 (by omega), c1, cb_congr _ k7]; omega)
  · match i9, h9 with
    | 0, h9 =>
      cases h9
      have c1 : _ = (0 : Int) := c1
      refine ⟨48, rfl, ?_⟩
      refine gx_aload0 (q := 49) hG d_X_count_48 rfl ?_
      refine gx_get (q := 52) hG f_X_145 hpX rfl d_X_count_49 rfl ?_
      refine gx_ireturn hG d_X_count_52 rfl rfl ?_
      refine ⟨_, rfl, congrArg (fun z => some (Vi z)) ?_, rfl⟩
      unfold sp_count
      first
        | (rw [if_neg (by omega)]; done)
        | (rw [if_pos (by omega)]; unfold cntS; rw [if_pos (by omega)]; exact rfl)
        | (rw [if_pos (by omega)]; unfold cntS; rw [if_neg (by omega), if_pos (by omega)]; exact rfl)
        | (rw [if_pos (by omega)]; unfold cntS; rw [if_neg (by omega), if_neg (by omega), if_pos (by omega)]; exact leftX)
        | (rw [if_pos (by omega)]; unfold cntS; rw [if_neg (by omega), if_neg (by omega), if_neg (by omega), z5 (by omega), z6 (by omega), z7 (by omega), c1]
           first
             | (rw [cb_congr _ k3]; show cb _ (w 0 7).toNat = cb _ (w 0 7).toNat + 0 + 0 + 0; omega)
             | (rw [cb_congr _ k4]; show cb _ (w 0 7).toNat = cb _ (w 0 7).toNat + 0 + 0 + 0; omega))
        | (rw [if_pos (by omega)]; unfold cntS; rw [if_neg (by omega), if_neg (by omega), if_neg (by omega), z0 (by omega) (by omega), z6 (by omega), z7 (by omega), c1, cb_congr _ k5]; omega)
        | (rw [if_pos (by omega)]; unfold cntS; rw [if_neg (by omega), if_neg (by omega), if_neg (by omega), z0 (by omega) (by omega), z5 (by omega), z7 (by omega), c1, cb_congr _ k6]; omega)
        | (rw [if_pos (by omega)]; unfold cntS; rw [if_neg (by omega), if_neg (by omega), if_neg (by omega), z0 (by omega) (by omega), z5 (by omega), z6 (by omega), c1, cb_congr _ k7]; omega)
    | 1, h9 =>
      cases h9
      have c1 : _ = (1 : Int) := c1
      refine ⟨53, rfl, ?_⟩
      refine gx_aload0 (q := 54) hG d_X_count_53 rfl ?_
      refine gx_get (q := 57) hG f_X_21 hpX rfl d_X_count_54 rfl ?_
      refine gx_get (q := 60) hG f_X_147 (hpGame (by unfold isG; omega)) rfl d_X_count_57 rfl ?_
      refine gx_ireturn hG d_X_count_60 rfl rfl ?_
      refine ⟨_, rfl, congrArg (fun z => some (Vi z)) ?_, rfl⟩
      unfold sp_count
      first
        | (rw [if_neg (by omega)]; done)
        | (rw [if_pos (by omega)]; unfold cntS; rw [if_pos (by omega)]; exact rfl)
        | (rw [if_pos (by omega)]; unfold cntS; rw [if_neg (by omega), if_pos (by omega)]; exact rfl)
        | (rw [if_pos (by omega)]; unfold cntS; rw [if_neg (by omega), if_neg (by omega), if_pos (by omega)]; exact leftX)
        | (rw [if_pos (by omega)]; unfold cntS; rw [if_neg (by omega), if_neg (by omega), if_neg (by omega), z5 (by omega), z6 (by omega), z7 (by omega), c1]
           first
             | (rw [cb_congr _ k3]; show cb _ (w 0 7).toNat = cb _ (w 0 7).toNat + 0 + 0 + 0; omega)
             | (rw [cb_congr _ k4]; show cb _ (w 0 7).toNat = cb _ (w 0 7).toNat + 0 + 0 + 0; omega))
        | (rw [if_pos (by omega)]; unfold cntS; rw [if_neg (by omega), if_neg (by omega), if_neg (by omega), z0 (by omega) (by omega), z6 (by omega), z7 (by omega), c1, cb_congr _ k5]; omega)
        | (rw [if_pos (by omega)]; unfold cntS; rw [if_neg (by omega), if_neg (by omega), if_neg (by omega), z0 (by omega) (by omega), z5 (by omega), z7 (by omega), c1, cb_congr _ k6]; omega)
        | (rw [if_pos (by omega)]; unfold cntS; rw [if_neg (by omega), if_neg (by omega), if_neg (by omega), z0 (by omega) (by omega), z5 (by omega), z6 (by omega), c1, cb_congr _ k7]; omega)
    | 2, h9 =>
      cases h9
      have c1 : _ = (2 : Int) := c1
      refine ⟨61, rfl, ?_⟩
      refine gx_aload0 (q := 62) hG d_X_count_61 rfl ?_
      refine gx_get (q := 65) hG f_X_21 hpX rfl d_X_count_62 rfl ?_
      refine gw_V0X (q := 68) hG l_X_184 c_Gm_openCount (ev_Gm_openCount hg) (hpGame (by unfold isG; omega)) rfl (by decide) (Nat.le_of_ble_eq_true rfl) d_X_count_65 rfl (by decide) ?_
      refine gx_ireturn hG d_X_count_68 rfl rfl ?_
      refine ⟨_, rfl, congrArg (fun z => some (Vi z)) ?_, rfl⟩
      unfold sp_count
      first
        | (rw [if_neg (by omega)]; done)
        | (rw [if_pos (by omega)]; unfold cntS; rw [if_pos (by omega)]; exact rfl)
        | (rw [if_pos (by omega)]; unfold cntS; rw [if_neg (by omega), if_pos (by omega)]; exact rfl)
        | (rw [if_pos (by omega)]; unfold cntS; rw [if_neg (by omega), if_neg (by omega), if_pos (by omega)]; exact leftX)
        | (rw [if_pos (by omega)]; unfold cntS; rw [if_neg (by omega), if_neg (by omega), if_neg (by omega), z5 (by omega), z6 (by omega), z7 (by omega), c1]
           first
             | (rw [cb_congr _ k3]; show cb _ (w 0 7).toNat = cb _ (w 0 7).toNat + 0 + 0 + 0; omega)
             | (rw [cb_congr _ k4]; show cb _ (w 0 7).toNat = cb _ (w 0 7).toNat + 0 + 0 + 0; omega))
        | (rw [if_pos (by omega)]; unfold cntS; rw [if_neg (by omega), if_neg (by omega), if_neg (by omega), z0 (by omega) (by omega), z6 (by omega), z7 (by omega), c1, cb_congr _ k5]; omega)
        | (rw [if_pos (by omega)]; unfold cntS; rw [if_neg (by omega), if_neg (by omega), if_neg (by omega), z0 (by omega) (by omega), z5 (by omega), z7 (by omega), c1, cb_congr _ k6]; omega)
        | (rw [if_pos (by omega)]; unfold cntS; rw [if_neg (by omega), if_neg (by omega), if_neg (by omega), z0 (by omega) (by omega), z5 (by omega), z6 (by omega), c1, cb_congr _ k7]; omega)
    | 3, h9 =>
      cases h9
      have c1 : _ = (3 : Int) := c1
      refine ⟨69, rfl, ?_⟩
      refine gx_aload0 (q := 70) hG d_X_count_69 rfl ?_
      refine gx_iconst (q := 71) hG d_X_count_70 rfl ?_
      refine gw_V1X (q := 74) hG l_X_292 c_X_playersOf (ev_X_playersOf hO (by omega)) hpX rfl (by decide) (Nat.le_of_ble_eq_true rfl) d_X_count_71 rfl (by decide) ?_
      refine gx_ireturn hG d_X_count_74 rfl rfl ?_
      refine ⟨_, rfl, congrArg (fun z => some (Vi z)) ?_, rfl⟩
      unfold sp_count
      first
        | (rw [if_neg (by omega)]; done)
        | (rw [if_pos (by omega)]; unfold cntS; rw [if_pos (by omega)]; exact rfl)
        | (rw [if_pos (by omega)]; unfold cntS; rw [if_neg (by omega), if_pos (by omega)]; exact rfl)
        | (rw [if_pos (by omega)]; unfold cntS; rw [if_neg (by omega), if_neg (by omega), if_pos (by omega)]; exact leftX)
        | (rw [if_pos (by omega)]; unfold cntS; rw [if_neg (by omega), if_neg (by omega), if_neg (by omega), z5 (by omega), z6 (by omega), z7 (by omega), c1]
           first
             | (rw [cb_congr _ k3]; show cb _ (w 0 7).toNat = cb _ (w 0 7).toNat + 0 + 0 + 0; omega)
             | (rw [cb_congr _ k4]; show cb _ (w 0 7).toNat = cb _ (w 0 7).toNat + 0 + 0 + 0; omega))
        | (rw [if_pos (by omega)]; unfold cntS; rw [if_neg (by omega), if_neg (by omega), if_neg (by omega), z0 (by omega) (by omega), z6 (by omega), z7 (by omega), c1, cb_congr _ k5]; omega)
        | (rw [if_pos (by omega)]; unfold cntS; rw [if_neg (by omega), if_neg (by omega), if_neg (by omega), z0 (by omega) (by omega), z5 (by omega), z7 (by omega), c1, cb_congr _ k6]; omega)
        | (rw [if_pos (by omega)]; unfold cntS; rw [if_neg (by omega), if_neg (by omega), if_neg (by omega), z0 (by omega) (by omega), z5 (by omega), z6 (by omega), c1, cb_congr _ k7]; omega)
    | 4, h9 =>
      cases h9
      have c1 : _ = (4 : Int) := c1
      refine ⟨75, rfl, ?_⟩
      refine gx_aload0 (q := 76) hG d_X_count_75 rfl ?_
      refine gx_iconst (q := 77) hG d_X_count_76 rfl ?_
      refine gw_V1X (q := 80) hG l_X_292 c_X_playersOf (ev_X_playersOf hO (by omega)) hpX rfl (by decide) (Nat.le_of_ble_eq_true rfl) d_X_count_77 rfl (by decide) ?_
      refine gx_ireturn hG d_X_count_80 rfl rfl ?_
      refine ⟨_, rfl, congrArg (fun z => some (Vi z)) ?_, rfl⟩
      unfold sp_count
      first
        | (rw [if_neg (by omega)]; done)
        | (rw [if_pos (by omega)]; unfold cntS; rw [if_pos (by omega)]; exact rfl)
        | (rw [if_pos (by omega)]; unfold cntS; rw [if_neg (by omega), if_pos (by omega)]; exact rfl)
        | (rw [if_pos (by omega)]; unfold cntS; rw [if_neg (by omega), if_neg (by omega), if_pos (by omega)]; exact leftX)
        | (rw [if_pos (by omega)]; unfold cntS; rw [if_neg (by omega), if_neg (by omega), if_neg (by omega), z5 (by omega), z6 (by omega), z7 (by omega), c1]
           first
             | (rw [cb_congr _ k3]; show cb _ (w 0 7).toNat = cb _ (w 0 7).toNat + 0 + 0 + 0; omega)
             | (rw [cb_congr _ k4]; show cb _ (w 0 7).toNat = cb _ (w 0 7).toNat + 0 + 0 + 0; omega))
        | (rw [if_pos (by omega)]; unfold cntS; rw [if_neg (by omega), if_neg (by omega), if_neg (by omega), z0 (by omega) (by omega), z6 (by omega), z7 (by omega), c1, cb_congr _ k5]; omega)
        | (rw [if_pos (by omega)]; unfold cntS; rw [if_neg (by omega), if_neg (by omega), if_neg (by omega), z0 (by omega) (by omega), z5 (by omega), z7 (by omega), c1, cb_congr _ k6]; omega)
        | (rw [if_pos (by omega)]; unfold cntS; rw [if_neg (by omega), if_neg (by omega), if_neg (by omega), z0 (by omega) (by omega), z5 (by omega), z6 (by omega), c1, cb_congr _ k7]; omega)
    | 5, h9 =>
      cases h9
      have c1 : _ = (5 : Int) := c1
      refine ⟨81, rfl, ?_⟩
      refine gx_aload0 (q := 82) hG d_X_count_81 rfl ?_
      refine gw_V0X (q := 85) hG l_X_295 c_X_keptCount (ev_X_keptCount hj) hpX rfl (by decide) (Nat.le_of_ble_eq_true rfl) d_X_count_82 rfl (by decide) ?_
      refine gx_ireturn hG d_X_count_85 rfl rfl ?_
      refine ⟨_, rfl, congrArg (fun z => some (Vi z)) ?_, rfl⟩
      unfold sp_count
      first
        | (rw [if_neg (by omega)]; done)
        | (rw [if_pos (by omega)]; unfold cntS; rw [if_pos (by omega)]; exact rfl)
        | (rw [if_pos (by omega)]; unfold cntS; rw [if_neg (by omega), if_pos (by omega)]; exact rfl)
        | (rw [if_pos (by omega)]; unfold cntS; rw [if_neg (by omega), if_neg (by omega), if_pos (by omega)]; exact leftX)
        | (rw [if_pos (by omega)]; unfold cntS; rw [if_neg (by omega), if_neg (by omega), if_neg (by omega), z5 (by omega), z6 (by omega), z7 (by omega), c1]
           first
             | (rw [cb_congr _ k3]; show cb _ (w 0 7).toNat = cb _ (w 0 7).toNat + 0 + 0 + 0; omega)
             | (rw [cb_congr _ k4]; show cb _ (w 0 7).toNat = cb _ (w 0 7).toNat + 0 + 0 + 0; omega))
        | (rw [if_pos (by omega)]; unfold cntS; rw [if_neg (by omega), if_neg (by omega), if_neg (by omega), z0 (by omega) (by omega), z6 (by omega), z7 (by omega), c1, cb_congr _ k5]; omega)
        | (rw [if_pos (by omega)]; unfold cntS; rw [if_neg (by omega), if_neg (by omega), if_neg (by omega), z0 (by omega) (by omega), z5 (by omega), z7 (by omega), c1, cb_congr _ k6]; omega)
        | (rw [if_pos (by omega)]; unfold cntS; rw [if_neg (by omega), if_neg (by omega), if_neg (by omega), z0 (by omega) (by omega), z5 (by omega), z6 (by omega), c1, cb_congr _ k7]; omega)
    | 6, h9 =>
      cases h9
      have c1 : _ = (6 : Int) := c1
      refine ⟨86, rfl, ?_⟩
      refine gx_aload0 (q := 87) hG d_X_count_86 rfl ?_
      refine gx_get (q := 90) hG f_X_11 hpX rfl d_X_count_87 rfl ?_
      refine gw_S1X (q := 93) hG l_X_298 c_X_thereOf (ev_X_thereOf (RA_r hO)) (by decide) (Nat.le_of_ble_eq_true rfl) d_X_count_90 rfl (by decide) ?_
      refine gx_ireturn hG d_X_count_93 rfl rfl ?_
      refine ⟨_, rfl, congrArg (fun z => some (Vi z)) ?_, rfl⟩
      unfold sp_count
      first
        | (rw [if_neg (by omega)]; done)
        | (rw [if_pos (by omega)]; unfold cntS; rw [if_pos (by omega)]; exact rfl)
        | (rw [if_pos (by omega)]; unfold cntS; rw [if_neg (by omega), if_pos (by omega)]; exact rfl)
        | (rw [if_pos (by omega)]; unfold cntS; rw [if_neg (by omega), if_neg (by omega), if_pos (by omega)]; exact leftX)
        | (rw [if_pos (by omega)]; unfold cntS; rw [if_neg (by omega), if_neg (by omega), if_neg (by omega), z5 (by omega), z6 (by omega), z7 (by omega), c1]
           first
             | (rw [cb_congr _ k3]; show cb _ (w 0 7).toNat = cb _ (w 0 7).toNat + 0 + 0 + 0; omega)
             | (rw [cb_congr _ k4]; show cb _ (w 0 7).toNat = cb _ (w 0 7).toNat + 0 + 0 + 0; omega))
        | (rw [if_pos (by omega)]; unfold cntS; rw [if_neg (by omega), if_neg (by omega), if_neg (by omega), z0 (by omega) (by omega), z6 (by omega), z7 (by omega), c1, cb_congr _ k5]; omega)
        | (rw [if_pos (by omega)]; unfold cntS; rw [if_neg (by omega), if_neg (by omega), if_neg (by omega), z0 (by omega) (by omega), z5 (by omega), z7 (by omega), c1, cb_congr _ k6]; omega)
        | (rw [if_pos (by omega)]; unfold cntS; rw [if_neg (by omega), if_neg (by omega), if_neg (by omega), z0 (by omega) (by omega), z5 (by omega), z6 (by omega), c1, cb_congr _ k7]; omega)
    | 7, h9 =>
      cases h9
      have c1 : _ = (7 : Int) := c1
      refine ⟨94, rfl, ?_⟩
      refine gx_aload0 (q := 95) hG d_X_count_94 rfl ?_
      refine gx_get (q := 98) hG f_X_15 hpX rfl d_X_count_95 rfl ?_
      refine gw_S1X (q := 101) hG l_X_298 c_X_thereOf (ev_X_thereOf (RA_t hO)) (by decide) (Nat.le_of_ble_eq_true rfl) d_X_count_98 rfl (by decide) ?_
      refine gx_ireturn hG d_X_count_101 rfl rfl ?_
      refine ⟨_, rfl, congrArg (fun z => some (Vi z)) ?_, rfl⟩
      unfold sp_count
      first
        | (rw [if_neg (by omega)]; done)
        | (rw [if_pos (by omega)]; unfold cntS; rw [if_pos (by omega)]; exact rfl)
        | (rw [if_pos (by omega)]; unfold cntS; rw [if_neg (by omega), if_pos (by omega)]; exact rfl)
        | (rw [if_pos (by omega)]; unfold cntS; rw [if_neg (by omega), if_neg (by omega), if_pos (by omega)]; exact leftX)
        | (rw [if_pos (by omega)]; unfold cntS; rw [if_neg (by omega), if_neg (by omega), if_neg (by omega), z5 (by omega), z6 (by omega), z7 (by omega), c1]
           first
             | (rw [cb_congr _ k3]; show cb _ (w 0 7).toNat = cb _ (w 0 7).toNat + 0 + 0 + 0; omega)
             | (rw [cb_congr _ k4]; show cb _ (w 0 7).toNat = cb _ (w 0 7).toNat + 0 + 0 + 0; omega))
        | (rw [if_pos (by omega)]; unfold cntS; rw [if_neg (by omega), if_neg (by omega), if_neg (by omega), z0 (by omega) (by omega), z6 (by omega), z7 (by omega), c1, cb_congr _ k5]; omega)
        | (rw [if_pos (by omega)]; unfold cntS; rw [if_neg (by omega), if_neg (by omega), if_neg (by omega), z0 (by omega) (by omega), z5 (by omega), z7 (by omega), c1, cb_congr _ k6]; omega)
        | (rw [if_pos (by omega)]; unfold cntS; rw [if_neg (by omega), if_neg (by omega), if_neg (by omega), z0 (by omega) (by omega), z5 (by omega), z6 (by omega), c1, cb_congr _ k7]; omega)
    | i9 + 8, h9 => simp at h9
theorem OK.mk {w : Mem} (h : OK (aM w)) {p : Int} (hp0 : 0 ≤ p ∧ p < w 76 12) : 0 ≤ w 84 p ∧ w 84 p ≤ 5 := by
  have := h.kd p hp0.1 hp0.2
  rw [aM_at6 hp0] at this
  exact this
theorem ev_M_counted {w : Mem} {x : Int} (hO : OK (aM w)) (hx : 0 ≤ x ∧ x ≤ 7) : EvI y_M_counted b_M_counted 4 (some .int) (5) [Vr 76, Vi x] w (fun z w' => z = cntS (aM w) x ∧ SM w w' ∧ w' 76 = w 76) := by
  refine Ev.mk (isI := false) (by decide +kernel) nofun (Nat.le_of_ble_eq_true rfl) (fun G hG => ?_)
  show G 0 [some (Vr 76), some (Vi x), none, none] [] 102 (hp w)
  have hp2 := hO.pc
  have e2 : aM w 4 2 = w 76 12 := rfl
  rw [e2] at hp2
  have E : ∀ t : Int, t = cb (kdP (aM w) x) (w 76 12).toNat + cb (fun k => x = 5 ∧ 0 ≤ aM w 8 k) 3 + cb (fun r => x = 6 ∧ 0 ≤ aM w 0 r) 6 + cb (fun t => x = 7 ∧ 0 ≤ aM w 2 t) 4 → G 184 [some (Vr 76), some (Vi x), some (Vi t), some (Vi 4)] [] 102 (hp w) := by
    intro t ht
    refine gx_iload1 (q := 185) hG d_M_counted_184 rfl ?_
    refine gx_tsw (tgt := 227) hG d_M_counted_185 (by omega) (by decide) rfl (fun c185 => ?_) (fun i9 o9 h9 c185 => ?_)
    · refine gx_iload2 (q := 228) hG d_M_counted_227 rfl ?_
      refine gx_ireturn hG d_M_counted_228 rfl rfl ?_
      refine ⟨_, rfl, _, rfl, ?_, ?_, ?_⟩
      · unfold cntS
        first
          | (rw [if_pos (by omega)]; exact rfl)
          | (rw [if_neg (by omega), if_pos (by omega)]; exact rfl)
          | (rw [if_neg (by omega), if_neg (by omega), if_pos (by omega)]; exact h223.1)
          | (rw [if_neg (by omega), if_neg (by omega), if_neg (by omega)]; exact ht)
      · first
          | exact SM_id
          | (obtain ⟨_, F, rfl⟩ := h223; exact SM_83)
      · first
          | exact rfl
          | (obtain ⟨_, F, rfl⟩ := h223; exact wc_ne (by omega))
    · match i9, h9 with
      | 0, h9 =>
        cases h9
        have c185 : _ = (0 : Int) := c185
        refine ⟨212, rfl, ?_⟩
        refine gx_aload0 (q := 213) hG d_M_counted_212 rfl ?_
        refine gx_get (q := 216) hG f_M_175 hpM rfl d_M_counted_213 rfl ?_
        refine gx_ireturn hG d_M_counted_216 rfl rfl ?_
        refine ⟨_, rfl, _, rfl, ?_, ?_, ?_⟩
        · unfold cntS
          first
            | (rw [if_pos (by omega)]; exact rfl)
            | (rw [if_neg (by omega), if_pos (by omega)]; exact rfl)
            | (rw [if_neg (by omega), if_neg (by omega), if_pos (by omega)]; exact h223.1)
            | (rw [if_neg (by omega), if_neg (by omega), if_neg (by omega)]; exact ht)
        · first
            | exact SM_id
            | (obtain ⟨_, F, rfl⟩ := h223; exact SM_83)
        · first
            | exact rfl
            | (obtain ⟨_, F, rfl⟩ := h223; exact wc_ne (by omega))
      | 1, h9 =>
        cases h9
        have c185 : _ = (1 : Int) := c185
        refine ⟨217, rfl, ?_⟩
        refine gx_aload0 (q := 218) hG d_M_counted_217 rfl ?_
        refine gx_get (q := 221) hG f_M_178 hpM rfl d_M_counted_218 rfl ?_
        refine gx_ireturn hG d_M_counted_221 rfl rfl ?_
        refine ⟨_, rfl, _, rfl, ?_, ?_, ?_⟩
        · unfold cntS
          first
            | (rw [if_pos (by omega)]; exact rfl)
            | (rw [if_neg (by omega), if_pos (by omega)]; exact rfl)
            | (rw [if_neg (by omega), if_neg (by omega), if_pos (by omega)]; exact h223.1)
            | (rw [if_neg (by omega), if_neg (by omega), if_neg (by omega)]; exact ht)
        · first
            | exact SM_id
            | (obtain ⟨_, F, rfl⟩ := h223; exact SM_83)
        · first
            | exact rfl
            | (obtain ⟨_, F, rfl⟩ := h223; exact wc_ne (by omega))
      | 2, h9 =>
        cases h9
        have c185 : _ = (2 : Int) := c185
        refine ⟨222, rfl, ?_⟩
        refine gx_aload0 (q := 223) hG d_M_counted_222 rfl ?_
        refine gw_V0I (q := 226) hG l_M_192 c_M_leftNow (ev_M_leftNow hO) hpM rfl (by decide) (Nat.le_of_ble_eq_true rfl) d_M_counted_223 rfl (by decide) (fun z223 w h223 => ?_)
        refine gx_ireturn hG d_M_counted_226 rfl rfl ?_
        refine ⟨_, rfl, _, rfl, ?_, ?_, ?_⟩
        · unfold cntS
          first
            | (rw [if_pos (by omega)]; exact rfl)
            | (rw [if_neg (by omega), if_pos (by omega)]; exact rfl)
            | (rw [if_neg (by omega), if_neg (by omega), if_pos (by omega)]; exact h223.1)
            | (rw [if_neg (by omega), if_neg (by omega), if_neg (by omega)]; exact ht)
        · first
            | exact SM_id
            | (obtain ⟨_, F, rfl⟩ := h223; exact SM_83)
        · first
            | exact rfl
            | (obtain ⟨_, F, rfl⟩ := h223; exact wc_ne (by omega))
      | i9 + 3, h9 => simp at h9
  have D : ∀ (j k : Nat) (t : Int), k + j = 4 → t = cb (kdP (aM w) x) (w 76 12).toNat + cb (fun k => x = 5 ∧ 0 ≤ aM w 8 k) 3 + cb (fun r => x = 6 ∧ 0 ≤ aM w 0 r) 6 + cb (fun t => x = 7 ∧ 0 ≤ aM w 2 t) k → G 150 [some (Vr 76), some (Vi x), some (Vi t), some (Vi (k : Int))] [] 102 (hp w) := by
    intro j
    induction j with
    | zero =>
      intro k t h1 h2
      refine gx_iload3 (q := 151) hG d_M_counted_150 rfl ?_
      refine gx_iconst (q := 152) hG d_M_counted_151 rfl ?_
      refine gx_icmp_ge (tgt := 184) (q := 155) hG d_M_counted_152 rfl rfl (by omega) (by omega) (fun c152 => ?_) (fun c152 => ?_)
      · have e := E t (by rw [h2, show k = 4 by omega])
        rw [show (k : Int) = 4 by omega]
        exact e
      · exfalso; omega
    | succ j ih =>
      intro k t h1 h2
      have hb := hO.m2 (r := k) (by omega)
      have ea : aM w 2 k = w 81 k := aM_at2 (by omega)
      have ce : cb (fun t => x = 7 ∧ 0 ≤ aM w 2 t) (k + 1) = cb (fun t => x = 7 ∧ 0 ≤ aM w 2 t) k + bi (x = 7 ∧ 0 ≤ aM w 2 k) := rfl
      refine gx_iload3 (q := 151) hG d_M_counted_150 rfl ?_
      refine gx_iconst (q := 152) hG d_M_counted_151 rfl ?_
      refine gx_icmp_ge (tgt := 184) (q := 155) hG d_M_counted_152 rfl rfl (by omega) (by omega) (fun c152 => ?_) (fun c152 => ?_)
      · exfalso; omega
      · refine gx_iload2 (q := 156) hG d_M_counted_155 rfl ?_
        refine gx_iload1 (q := 157) hG d_M_counted_156 rfl ?_
        refine gx_bipush (q := 159) hG d_M_counted_157 rfl rfl ?_
        refine gx_icmp_ne (tgt := 175) (q := 162) hG d_M_counted_159 rfl rfl (by omega) (by omega) (fun c159 => ?_) (fun c159 => ?_)
        · refine gx_iconst (q := 176) hG d_M_counted_175 rfl ?_
          refine gx_iadd (q := 177) hG d_M_counted_176 rfl ?_
          refine gx_istore2 (q := 178) hG d_M_counted_177 rfl rfl ?_
          refine gx_iinc3 (q := 181) hG d_M_counted_178 rfl rfl ?_
          refine gx_goto (tgt := 150) hG d_M_counted_181 rfl ?_
          refine ih (k + 1) _ (by omega) ?_
          rw [ce]
          first
            | (rw [bi_t (by omega)]; omega)
            | (rw [bi_f (by omega)]; omega)
        · refine gx_aload0 (q := 163) hG d_M_counted_162 rfl ?_
          refine gx_get (q := 166) hG f_M_22 hpM rfl d_M_counted_163 rfl ?_
          refine gx_iload3 (q := 167) hG d_M_counted_166 rfl ?_
          refine gw_iald (q := 168) hG rfl (by omega) (by omega) d_M_counted_167 rfl ?_
          refine gx_if_lt (tgt := 175) (q := 171) hG d_M_counted_168 rfl rfl (by omega) (fun c168 => ?_) (fun c168 => ?_)
          · refine gx_iconst (q := 176) hG d_M_counted_175 rfl ?_
            refine gx_iadd (q := 177) hG d_M_counted_176 rfl ?_
            refine gx_istore2 (q := 178) hG d_M_counted_177 rfl rfl ?_
            refine gx_iinc3 (q := 181) hG d_M_counted_178 rfl rfl ?_
            refine gx_goto (tgt := 150) hG d_M_counted_181 rfl ?_
            refine ih (k + 1) _ (by omega) ?_
            rw [ce]
            first
              | (rw [bi_t (by omega)]; omega)
              | (rw [bi_f (by omega)]; omega)
          · refine gx_iconst (q := 172) hG d_M_counted_171 rfl ?_
            refine gx_goto (tgt := 176) hG d_M_counted_172 rfl ?_
            refine gx_iadd (q := 177) hG d_M_counted_176 rfl ?_
            refine gx_istore2 (q := 178) hG d_M_counted_177 rfl rfl ?_
            refine gx_iinc3 (q := 181) hG d_M_counted_178 rfl rfl ?_
            refine gx_goto (tgt := 150) hG d_M_counted_181 rfl ?_
            refine ih (k + 1) _ (by omega) ?_
            rw [ce]
            first
              | (rw [bi_t (by omega)]; omega)
              | (rw [bi_f (by omega)]; omega)
  have C : ∀ (j k : Nat) (t : Int), k + j = 6 → t = cb (kdP (aM w) x) (w 76 12).toNat + cb (fun k => x = 5 ∧ 0 ≤ aM w 8 k) 3 + cb (fun r => x = 6 ∧ 0 ≤ aM w 0 r) k → G 113 [some (Vr 76), some (Vi x), some (Vi t), some (Vi (k : Int))] [] 102 (hp w) := by
    intro j
    induction j with
    | zero =>
      intro k t h1 h2
      refine gx_iload3 (q := 114) hG d_M_counted_113 rfl ?_
      refine gx_bipush (q := 116) hG d_M_counted_114 rfl rfl ?_
      refine gx_icmp_ge (tgt := 148) (q := 119) hG d_M_counted_116 rfl rfl (by omega) (by omega) (fun c116 => ?_) (fun c116 => ?_)
      · refine gx_iconst (q := 149) hG d_M_counted_148 rfl ?_
        refine gx_istore3 (q := 150) hG d_M_counted_149 rfl rfl ?_
        exact D 4 0 t (by omega) (by rw [h2, show k = 6 by omega]; exact (Int.add_zero _).symm)
      · exfalso; omega
    | succ j ih =>
      intro k t h1 h2
      have hb := hO.m0 (r := k) (by omega)
      have ea : aM w 0 k = w 78 k := aM_at0 (by omega)
      have ce : cb (fun t => x = 6 ∧ 0 ≤ aM w 0 t) (k + 1) = cb (fun t => x = 6 ∧ 0 ≤ aM w 0 t) k + bi (x = 6 ∧ 0 ≤ aM w 0 k) := rfl
      refine gx_iload3 (q := 114) hG d_M_counted_113 rfl ?_
      refine gx_bipush (q := 116) hG d_M_counted_114 rfl rfl ?_
      refine gx_icmp_ge (tgt := 148) (q := 119) hG d_M_counted_116 rfl rfl (by omega) (by omega) (fun c116 => ?_) (fun c116 => ?_)
      · exfalso; omega
      · refine gx_iload2 (q := 120) hG d_M_counted_119 rfl ?_
        refine gx_iload1 (q := 121) hG d_M_counted_120 rfl ?_
        refine gx_bipush (q := 123) hG d_M_counted_121 rfl rfl ?_
        refine gx_icmp_ne (tgt := 139) (q := 126) hG d_M_counted_123 rfl rfl (by omega) (by omega) (fun c123 => ?_) (fun c123 => ?_)
        · refine gx_iconst (q := 140) hG d_M_counted_139 rfl ?_
          refine gx_iadd (q := 141) hG d_M_counted_140 rfl ?_
          refine gx_istore2 (q := 142) hG d_M_counted_141 rfl rfl ?_
          refine gx_iinc3 (q := 145) hG d_M_counted_142 rfl rfl ?_
          refine gx_goto (tgt := 113) hG d_M_counted_145 rfl ?_
          refine ih (k + 1) _ (by omega) ?_
          rw [ce]
          first
            | (rw [bi_t (by omega)]; omega)
            | (rw [bi_f (by omega)]; omega)
        · refine gx_aload0 (q := 127) hG d_M_counted_126 rfl ?_
          refine gx_get (q := 130) hG f_M_13 hpM rfl d_M_counted_127 rfl ?_
          refine gx_iload3 (q := 131) hG d_M_counted_130 rfl ?_
          refine gw_iald (q := 132) hG rfl (by omega) (by omega) d_M_counted_131 rfl ?_
          refine gx_if_lt (tgt := 139) (q := 135) hG d_M_counted_132 rfl rfl (by omega) (fun c132 => ?_) (fun c132 => ?_)
          · refine gx_iconst (q := 140) hG d_M_counted_139 rfl ?_
            refine gx_iadd (q := 141) hG d_M_counted_140 rfl ?_
            refine gx_istore2 (q := 142) hG d_M_counted_141 rfl rfl ?_
            refine gx_iinc3 (q := 145) hG d_M_counted_142 rfl rfl ?_
            refine gx_goto (tgt := 113) hG d_M_counted_145 rfl ?_
            refine ih (k + 1) _ (by omega) ?_
            rw [ce]
            first
              | (rw [bi_t (by omega)]; omega)
              | (rw [bi_f (by omega)]; omega)
          · refine gx_iconst (q := 136) hG d_M_counted_135 rfl ?_
            refine gx_goto (tgt := 140) hG d_M_counted_136 rfl ?_
            refine gx_iadd (q := 141) hG d_M_counted_140 rfl ?_
            refine gx_istore2 (q := 142) hG d_M_counted_141 rfl rfl ?_
            refine gx_iinc3 (q := 145) hG d_M_counted_142 rfl rfl ?_
            refine gx_goto (tgt := 113) hG d_M_counted_145 rfl ?_
            refine ih (k + 1) _ (by omega) ?_
            rw [ce]
            first
              | (rw [bi_t (by omega)]; omega)
              | (rw [bi_f (by omega)]; omega)
  have B : ∀ (j k : Nat) (t : Int), k + j = 3 → t = cb (kdP (aM w) x) (w 76 12).toNat + cb (fun k => x = 5 ∧ 0 ≤ aM w 8 k) k → G 78 [some (Vr 76), some (Vi x), some (Vi t), some (Vi (k : Int))] [] 102 (hp w) := by
    intro j
    induction j with
    | zero =>
      intro k t h1 h2
      refine gx_iload3 (q := 79) hG d_M_counted_78 rfl ?_
      refine gx_iconst (q := 80) hG d_M_counted_79 rfl ?_
      refine gx_icmp_ge (tgt := 111) (q := 83) hG d_M_counted_80 rfl rfl (by omega) (by omega) (fun c80 => ?_) (fun c80 => ?_)
      · refine gx_iconst (q := 112) hG d_M_counted_111 rfl ?_
        refine gx_istore3 (q := 113) hG d_M_counted_112 rfl rfl ?_
        exact C 6 0 t (by omega) (by rw [h2, show k = 3 by omega]; exact (Int.add_zero _).symm)
      · exfalso; omega
    | succ j ih =>
      intro k t h1 h2
      have hb := (hO.kk k (by omega) (by omega)).1
      have hb2 := (hO.kk k (by omega) (by omega)).2.1
      have ea : aM w 8 k = w 88 k := aM_at8 (by omega)
      have ce : cb (fun t => x = 5 ∧ 0 ≤ aM w 8 t) (k + 1) = cb (fun t => x = 5 ∧ 0 ≤ aM w 8 t) k + bi (x = 5 ∧ 0 ≤ aM w 8 k) := rfl
      refine gx_iload3 (q := 79) hG d_M_counted_78 rfl ?_
      refine gx_iconst (q := 80) hG d_M_counted_79 rfl ?_
      refine gx_icmp_ge (tgt := 111) (q := 83) hG d_M_counted_80 rfl rfl (by omega) (by omega) (fun c80 => ?_) (fun c80 => ?_)
      · exfalso; omega
      · refine gx_iload2 (q := 84) hG d_M_counted_83 rfl ?_
        refine gx_iload1 (q := 85) hG d_M_counted_84 rfl ?_
        refine gx_iconst (q := 86) hG d_M_counted_85 rfl ?_
        refine gx_icmp_ne (tgt := 102) (q := 89) hG d_M_counted_86 rfl rfl (by omega) (by omega) (fun c86 => ?_) (fun c86 => ?_)
        · refine gx_iconst (q := 103) hG d_M_counted_102 rfl ?_
          refine gx_iadd (q := 104) hG d_M_counted_103 rfl ?_
          refine gx_istore2 (q := 105) hG d_M_counted_104 rfl rfl ?_
          refine gx_iinc3 (q := 108) hG d_M_counted_105 rfl rfl ?_
          refine gx_goto (tgt := 78) hG d_M_counted_108 rfl ?_
          refine ih (k + 1) _ (by omega) ?_
          rw [ce]
          first
            | (rw [bi_t (by omega)]; omega)
            | (rw [bi_f (by omega)]; omega)
        · refine gx_aload0 (q := 90) hG d_M_counted_89 rfl ?_
          refine gx_get (q := 93) hG f_M_44 hpM rfl d_M_counted_90 rfl ?_
          refine gx_iload3 (q := 94) hG d_M_counted_93 rfl ?_
          refine gw_iald (q := 95) hG rfl (by omega) (by omega) d_M_counted_94 rfl ?_
          refine gx_if_lt (tgt := 102) (q := 98) hG d_M_counted_95 rfl rfl (by omega) (fun c95 => ?_) (fun c95 => ?_)
          · refine gx_iconst (q := 103) hG d_M_counted_102 rfl ?_
            refine gx_iadd (q := 104) hG d_M_counted_103 rfl ?_
            refine gx_istore2 (q := 105) hG d_M_counted_104 rfl rfl ?_
            refine gx_iinc3 (q := 108) hG d_M_counted_105 rfl rfl ?_
            refine gx_goto (tgt := 78) hG d_M_counted_108 rfl ?_
            refine ih (k + 1) _ (by omega) ?_
            rw [ce]
            first
              | (rw [bi_t (by omega)]; omega)
              | (rw [bi_f (by omega)]; omega)
          · refine gx_iconst (q := 99) hG d_M_counted_98 rfl ?_
            refine gx_goto (tgt := 103) hG d_M_counted_99 rfl ?_
            refine gx_iadd (q := 104) hG d_M_counted_103 rfl ?_
            refine gx_istore2 (q := 105) hG d_M_counted_104 rfl rfl ?_
            refine gx_iinc3 (q := 108) hG d_M_counted_105 rfl rfl ?_
            refine gx_goto (tgt := 78) hG d_M_counted_108 rfl ?_
            refine ih (k + 1) _ (by omega) ?_
            rw [ce]
            first
              | (rw [bi_t (by omega)]; omega)
              | (rw [bi_f (by omega)]; omega)
  have A : ∀ (j k : Nat) (t : Int), (k : Int) + j = w 76 12 → t = cb (kdP (aM w) x) k → G 4 [some (Vr 76), some (Vi x), some (Vi t), some (Vi (k : Int))] [] 102 (hp w) := by
    intro j
    induction j with
    | zero =>
      intro k t h1 h2
      refine gx_iload3 (q := 5) hG d_M_counted_4 rfl ?_
      refine gx_aload0 (q := 6) hG d_M_counted_5 rfl ?_
      refine gx_get (q := 9) hG f_M_175 hpM rfl d_M_counted_6 rfl ?_
      refine gx_icmp_ge (tgt := 76) (q := 12) hG d_M_counted_9 rfl rfl (by omega) (by omega) (fun c9 => ?_) (fun c9 => ?_)
      · refine gx_iconst (q := 77) hG d_M_counted_76 rfl ?_
        refine gx_istore3 (q := 78) hG d_M_counted_77 rfl rfl ?_
        exact B 3 0 t (by omega) (by rw [h2, show (w 76 12).toNat = k by omega]; exact (Int.add_zero _).symm)
      · exfalso; omega
    | succ j ih =>
      intro k t h1 h2
      have hb := hO.mk (p := k) (by omega)
      have ea : aM w 6 k = w 84 k := aM_at6 (by omega)
      have ce : cb (kdP (aM w) x) (k + 1) = cb (kdP (aM w) x) k + bi (kdP (aM w) x k) := rfl
      have kd : kdP (aM w) x k ↔ ((x = 3 ∧ (w 84 k = 1 ∨ w 84 k = 4)) ∨ (x = 4 ∧ (w 84 k = 2 ∨ w 84 k = 5))) := by unfold kdP; rw [ea]
      refine gx_iload3 (q := 5) hG d_M_counted_4 rfl ?_
      refine gx_aload0 (q := 6) hG d_M_counted_5 rfl ?_
      refine gx_get (q := 9) hG f_M_175 hpM rfl d_M_counted_6 rfl ?_
      refine gx_icmp_ge (tgt := 76) (q := 12) hG d_M_counted_9 rfl rfl (by omega) (by omega) (fun c9 => ?_) (fun c9 => ?_)
      · exfalso; omega
      · refine gx_iload2 (q := 13) hG d_M_counted_12 rfl ?_
        refine gx_iload1 (q := 14) hG d_M_counted_13 rfl ?_
        refine gx_iconst (q := 15) hG d_M_counted_14 rfl ?_
        refine gx_icmp_ne (tgt := 38) (q := 18) hG d_M_counted_15 rfl rfl (by omega) (by omega) (fun c15 => ?_) (fun c15 => ?_)
        · refine gx_iload1 (q := 39) hG d_M_counted_38 rfl ?_
          refine gx_iconst (q := 40) hG d_M_counted_39 rfl ?_
          refine gx_icmp_ne (tgt := 67) (q := 43) hG d_M_counted_40 rfl rfl (by omega) (by omega) (fun c40 => ?_) (fun c40 => ?_)
          · refine gx_iconst (q := 68) hG d_M_counted_67 rfl ?_
            refine gx_iadd (q := 69) hG d_M_counted_68 rfl ?_
            refine gx_istore2 (q := 70) hG d_M_counted_69 rfl rfl ?_
            refine gx_iinc3 (q := 73) hG d_M_counted_70 rfl rfl ?_
            refine gx_goto (tgt := 4) hG d_M_counted_73 rfl ?_
            refine ih (k + 1) _ (by omega) ?_
            rw [ce]
            first
              | (rw [bi_t (kd.mpr (by omega))]; omega)
              | (rw [bi_f (fun q => by have := kd.mp q; omega)]; omega)
          · refine gx_aload0 (q := 44) hG d_M_counted_43 rfl ?_
            refine gx_get (q := 47) hG f_M_32 hpM rfl d_M_counted_44 rfl ?_
            refine gx_iload3 (q := 48) hG d_M_counted_47 rfl ?_
            refine gw_iald (q := 49) hG rfl (by omega) (by omega) d_M_counted_48 rfl ?_
            refine gx_iconst (q := 50) hG d_M_counted_49 rfl ?_
            refine gx_icmp_eq (tgt := 63) (q := 53) hG d_M_counted_50 rfl rfl (by omega) (by omega) (fun c50 => ?_) (fun c50 => ?_)
            · refine gx_iconst (q := 64) hG d_M_counted_63 rfl ?_
              refine gx_goto (tgt := 68) hG d_M_counted_64 rfl ?_
              refine gx_iadd (q := 69) hG d_M_counted_68 rfl ?_
              refine gx_istore2 (q := 70) hG d_M_counted_69 rfl rfl ?_
              refine gx_iinc3 (q := 73) hG d_M_counted_70 rfl rfl ?_
              refine gx_goto (tgt := 4) hG d_M_counted_73 rfl ?_
              refine ih (k + 1) _ (by omega) ?_
              rw [ce]
              first
                | (rw [bi_t (kd.mpr (by omega))]; omega)
                | (rw [bi_f (fun q => by have := kd.mp q; omega)]; omega)
            · refine gx_aload0 (q := 54) hG d_M_counted_53 rfl ?_
              refine gx_get (q := 57) hG f_M_32 hpM rfl d_M_counted_54 rfl ?_
              refine gx_iload3 (q := 58) hG d_M_counted_57 rfl ?_
              refine gw_iald (q := 59) hG rfl (by omega) (by omega) d_M_counted_58 rfl ?_
              refine gx_iconst (q := 60) hG d_M_counted_59 rfl ?_
              refine gx_icmp_ne (tgt := 67) (q := 63) hG d_M_counted_60 rfl rfl (by omega) (by omega) (fun c60 => ?_) (fun c60 => ?_)
              · refine gx_iconst (q := 68) hG d_M_counted_67 rfl ?_
                refine gx_iadd (q := 69) hG d_M_counted_68 rfl ?_
                refine gx_istore2 (q := 70) hG d_M_counted_69 rfl rfl ?_
                refine gx_iinc3 (q := 73) hG d_M_counted_70 rfl rfl ?_
                refine gx_goto (tgt := 4) hG d_M_counted_73 rfl ?_
                refine ih (k + 1) _ (by omega) ?_
                rw [ce]
                first
                  | (rw [bi_t (kd.mpr (by omega))]; omega)
                  | (rw [bi_f (fun q => by have := kd.mp q; omega)]; omega)
              · refine gx_iconst (q := 64) hG d_M_counted_63 rfl ?_
                refine gx_goto (tgt := 68) hG d_M_counted_64 rfl ?_
                refine gx_iadd (q := 69) hG d_M_counted_68 rfl ?_
                refine gx_istore2 (q := 70) hG d_M_counted_69 rfl rfl ?_
                refine gx_iinc3 (q := 73) hG d_M_counted_70 rfl rfl ?_
                refine gx_goto (tgt := 4) hG d_M_counted_73 rfl ?_
                refine ih (k + 1) _ (by omega) ?_
                rw [ce]
                first
                  | (rw [bi_t (kd.mpr (by omega))]; omega)
                  | (rw [bi_f (fun q => by have := kd.mp q; omega)]; omega)
        · refine gx_aload0 (q := 19) hG d_M_counted_18 rfl ?_
          refine gx_get (q := 22) hG f_M_32 hpM rfl d_M_counted_19 rfl ?_
          refine gx_iload3 (q := 23) hG d_M_counted_22 rfl ?_
          refine gw_iald (q := 24) hG rfl (by omega) (by omega) d_M_counted_23 rfl ?_
          refine gx_iconst (q := 25) hG d_M_counted_24 rfl ?_
          refine gx_icmp_eq (tgt := 63) (q := 28) hG d_M_counted_25 rfl rfl (by omega) (by omega) (fun c25 => ?_) (fun c25 => ?_)
          · refine gx_iconst (q := 64) hG d_M_counted_63 rfl ?_
            refine gx_goto (tgt := 68) hG d_M_counted_64 rfl ?_
            refine gx_iadd (q := 69) hG d_M_counted_68 rfl ?_
            refine gx_istore2 (q := 70) hG d_M_counted_69 rfl rfl ?_
            refine gx_iinc3 (q := 73) hG d_M_counted_70 rfl rfl ?_
            refine gx_goto (tgt := 4) hG d_M_counted_73 rfl ?_
            refine ih (k + 1) _ (by omega) ?_
            rw [ce]
            first
              | (rw [bi_t (kd.mpr (by omega))]; omega)
              | (rw [bi_f (fun q => by have := kd.mp q; omega)]; omega)
          · refine gx_aload0 (q := 29) hG d_M_counted_28 rfl ?_
            refine gx_get (q := 32) hG f_M_32 hpM rfl d_M_counted_29 rfl ?_
            refine gx_iload3 (q := 33) hG d_M_counted_32 rfl ?_
            refine gw_iald (q := 34) hG rfl (by omega) (by omega) d_M_counted_33 rfl ?_
            refine gx_iconst (q := 35) hG d_M_counted_34 rfl ?_
            refine gx_icmp_eq (tgt := 63) (q := 38) hG d_M_counted_35 rfl rfl (by omega) (by omega) (fun c35 => ?_) (fun c35 => ?_)
            · refine gx_iconst (q := 64) hG d_M_counted_63 rfl ?_
              refine gx_goto (tgt := 68) hG d_M_counted_64 rfl ?_
              refine gx_iadd (q := 69) hG d_M_counted_68 rfl ?_
              refine gx_istore2 (q := 70) hG d_M_counted_69 rfl rfl ?_
              refine gx_iinc3 (q := 73) hG d_M_counted_70 rfl rfl ?_
              refine gx_goto (tgt := 4) hG d_M_counted_73 rfl ?_
              refine ih (k + 1) _ (by omega) ?_
              rw [ce]
              first
                | (rw [bi_t (kd.mpr (by omega))]; omega)
                | (rw [bi_f (fun q => by have := kd.mp q; omega)]; omega)
            · refine gx_iload1 (q := 39) hG d_M_counted_38 rfl ?_
              refine gx_iconst (q := 40) hG d_M_counted_39 rfl ?_
              refine gx_icmp_ne (tgt := 67) (q := 43) hG d_M_counted_40 rfl rfl (by omega) (by omega) (fun c40 => ?_) (fun c40 => ?_)
              · refine gx_iconst (q := 68) hG d_M_counted_67 rfl ?_
                refine gx_iadd (q := 69) hG d_M_counted_68 rfl ?_
                refine gx_istore2 (q := 70) hG d_M_counted_69 rfl rfl ?_
                refine gx_iinc3 (q := 73) hG d_M_counted_70 rfl rfl ?_
                refine gx_goto (tgt := 4) hG d_M_counted_73 rfl ?_
                refine ih (k + 1) _ (by omega) ?_
                rw [ce]
                first
                  | (rw [bi_t (kd.mpr (by omega))]; omega)
                  | (rw [bi_f (fun q => by have := kd.mp q; omega)]; omega)
              · refine gx_aload0 (q := 44) hG d_M_counted_43 rfl ?_
                refine gx_get (q := 47) hG f_M_32 hpM rfl d_M_counted_44 rfl ?_
                refine gx_iload3 (q := 48) hG d_M_counted_47 rfl ?_
                refine gw_iald (q := 49) hG rfl (by omega) (by omega) d_M_counted_48 rfl ?_
                refine gx_iconst (q := 50) hG d_M_counted_49 rfl ?_
                refine gx_icmp_eq (tgt := 63) (q := 53) hG d_M_counted_50 rfl rfl (by omega) (by omega) (fun c50 => ?_) (fun c50 => ?_)
                · refine gx_iconst (q := 64) hG d_M_counted_63 rfl ?_
                  refine gx_goto (tgt := 68) hG d_M_counted_64 rfl ?_
                  refine gx_iadd (q := 69) hG d_M_counted_68 rfl ?_
                  refine gx_istore2 (q := 70) hG d_M_counted_69 rfl rfl ?_
                  refine gx_iinc3 (q := 73) hG d_M_counted_70 rfl rfl ?_
                  refine gx_goto (tgt := 4) hG d_M_counted_73 rfl ?_
                  refine ih (k + 1) _ (by omega) ?_
                  rw [ce]
                  first
                    | (rw [bi_t (kd.mpr (by omega))]; omega)
                    | (rw [bi_f (fun q => by have := kd.mp q; omega)]; omega)
                · refine gx_aload0 (q := 54) hG d_M_counted_53 rfl ?_
                  refine gx_get (q := 57) hG f_M_32 hpM rfl d_M_counted_54 rfl ?_
                  refine gx_iload3 (q := 58) hG d_M_counted_57 rfl ?_
                  refine gw_iald (q := 59) hG rfl (by omega) (by omega) d_M_counted_58 rfl ?_
                  refine gx_iconst (q := 60) hG d_M_counted_59 rfl ?_
                  refine gx_icmp_ne (tgt := 67) (q := 63) hG d_M_counted_60 rfl rfl (by omega) (by omega) (fun c60 => ?_) (fun c60 => ?_)
                  · refine gx_iconst (q := 68) hG d_M_counted_67 rfl ?_
                    refine gx_iadd (q := 69) hG d_M_counted_68 rfl ?_
                    refine gx_istore2 (q := 70) hG d_M_counted_69 rfl rfl ?_
                    refine gx_iinc3 (q := 73) hG d_M_counted_70 rfl rfl ?_
                    refine gx_goto (tgt := 4) hG d_M_counted_73 rfl ?_
                    refine ih (k + 1) _ (by omega) ?_
                    rw [ce]
                    first
                      | (rw [bi_t (kd.mpr (by omega))]; omega)
                      | (rw [bi_f (fun q => by have := kd.mp q; omega)]; omega)
                  · refine gx_iconst (q := 64) hG d_M_counted_63 rfl ?_
                    refine gx_goto (tgt := 68) hG d_M_counted_64 rfl ?_
                    refine gx_iadd (q := 69) hG d_M_counted_68 rfl ?_
                    refine gx_istore2 (q := 70) hG d_M_counted_69 rfl rfl ?_
                    refine gx_iinc3 (q := 73) hG d_M_counted_70 rfl rfl ?_
                    refine gx_goto (tgt := 4) hG d_M_counted_73 rfl ?_
                    refine ih (k + 1) _ (by omega) ?_
                    rw [ce]
                    first
                      | (rw [bi_t (kd.mpr (by omega))]; omega)
                      | (rw [bi_f (fun q => by have := kd.mp q; omega)]; omega)
  refine gx_iconst (q := 1) hG d_M_counted_0 rfl ?_
  refine gx_istore2 (q := 2) hG d_M_counted_1 rfl rfl ?_
  refine gx_iconst (q := 3) hG d_M_counted_2 rfl ?_
  refine gx_istore3 (q := 4) hG d_M_counted_3 rfl rfl ?_
  exact A (w 76 12).toNat 0 0 (by omega) rfl
theorem ev_M_count {w : Mem} {x : Int} (hO : OK (aM w)) (hx : R3 x) : EvI y_M_count b_M_count 2 (some .int) (6) [Vr 76, Vi x] w (fun z w' => z = sp_count (aM w) x ∧ SM w w') := by
  refine Ev.mk (isI := false) (by decide +kernel) nofun (Nat.le_of_ble_eq_true rfl) (fun G hG => ?_)
  show G 0 [some (Vr 76), some (Vi x)] [] 102 (hp w)
  refine gx_iload1 (q := 1) hG d_M_count_0 rfl ?_
  refine gx_iconst (q := 2) hG d_M_count_1 rfl ?_
  refine gx_bipush (q := 4) hG d_M_count_2 rfl rfl ?_
  refine gw_S3X (q := 7) hG l_M_96 c_M_in (ev_M_in (by omega) (by omega) (by omega)) (by decide) (Nat.le_of_ble_eq_true rfl) d_M_count_4 rfl (by decide) ?_
  refine gx_if_eq (tgt := 18) (q := 10) hG d_M_count_7 rfl rfl (bi_R _) (fun c7 => ?_) (fun c7 => ?_)
  · have c7 := bi_eq0.mp c7
    refine gx_iconst (q := 19) hG d_M_count_18 rfl ?_
    refine gx_ireturn hG d_M_count_19 rfl rfl ?_
    first
      | exact ⟨_, rfl, _, rfl, by unfold sp_count; rw [if_pos (by omega)]; exact h12.1, h12.2.1⟩
      | exact ⟨_, rfl, _, rfl, by unfold sp_count; rw [if_neg (by omega)], SM_id⟩
  · have c7 := bi_ne0.mp c7
    refine gx_aload0 (q := 11) hG d_M_count_10 rfl ?_
    refine gx_iload1 (q := 12) hG d_M_count_11 rfl ?_
    refine gw_V1I (q := 15) hG l_M_313 c_M_counted (ev_M_counted hO (by omega)) hpM rfl (by decide) (Nat.le_of_ble_eq_true rfl) d_M_count_12 rfl (by decide) (fun z12 w h12 => ?_)
    refine gx_goto (tgt := 19) hG d_M_count_15 rfl ?_
    refine gx_ireturn hG d_M_count_19 rfl rfl ?_
    first
      | exact ⟨_, rfl, _, rfl, by unfold sp_count; rw [if_pos (by omega)]; exact h12.1, h12.2.1⟩
      | exact ⟨_, rfl, _, rfl, by unfold sp_count; rw [if_neg (by omega)], SM_id⟩

