/-! part 91: the law's beginning -/
theorem GI0_0 : GI0 w0 3 := by
  show Mk 1 (rch 0 (fun _ => 0) 0)
  refine Mk_one rch_zero (fun v h0 h1 => ?_)
  rintro (⟨z, -⟩ | ⟨-, z⟩)
  · exact absurd z (by decide)
  · have z : v = 0 := z
    omega
theorem inv0 : Inv w0 := by
  have hm : OK (aM w0) := by
    refine ⟨fun r r0 r1 => ?_, fun i i0 i1 => ?_, fun r r0 r1 => ?_, fun i i0 i1 => ?_, Or.inl rfl, by decide, by decide, fun i i0 i1 => ?_, fun p q0 q1 => ?_, fun e => ?_, fun k k0 k1 => ?_⟩
    · have e : aM w0 0 r = -1 := if_pos ⟨r0, r1⟩
      rw [e]; decide
    · have e : aM w0 1 i = 0 := if_pos ⟨i0, i1⟩
      rw [e]; decide
    · have e : aM w0 2 r = -1 := if_pos ⟨r0, r1⟩
      rw [e]; decide
    · have e : aM w0 3 i = 0 := if_pos ⟨i0, i1⟩
      rw [e]; decide
    · have i1 : i < 0 := i1
      omega
    · have q1 : p < 0 := q1
      omega
    · have e : (0 : Int) = 13 := e
      omega
    · have e : aM w0 8 k = -1 := if_pos ⟨k0, k1⟩
      rw [e]
      exact ⟨by decide, by decide, fun q => absurd q (by decide), fun i i0 i1 => by omega, fun q => absurd q (by decide)⟩
  have hx : aX w0 = aM w0 := by
    funext c i
    match c with
    | 0 =>
      show (if 0 ≤ i ∧ i < 6 then w0 (50 + 2 * i) 1 else 0) = (if 0 ≤ i ∧ i < 6 then w0 78 i else 0)
      split
      · have e : w0 (50 + 2 * i) = (fun j => if j = 1 then -1 else 0) := if_pos (by omega)
        rw [e]; rfl
      · rfl
    | 1 =>
      show (if 0 ≤ i ∧ i < 360 then w0 (51 + 2 * (i / 60)) (i % 60) else 0) = (if 0 ≤ i ∧ i < 360 then w0 79 i else 0)
      split
      · have e : w0 (51 + 2 * (i / 60)) = (fun _ => 0) := by
          unfold w0
          rw [if_neg (by omega), if_neg (by omega), if_neg (by omega), if_neg (by omega), if_neg (by omega)]
        rw [e]; rfl
      · rfl
    | 2 =>
      show (if 0 ≤ i ∧ i < 4 then w0 (62 + 2 * i) 1 else 0) = (if 0 ≤ i ∧ i < 4 then w0 81 i else 0)
      split
      · have e : w0 (62 + 2 * i) = (fun j => if j = 1 then -1 else 0) := if_pos (by omega)
        rw [e]; rfl
      · rfl
    | 3 =>
      show (if 0 ≤ i ∧ i < 240 then w0 (63 + 2 * (i / 60)) (i % 60) else 0) = (if 0 ≤ i ∧ i < 240 then w0 82 i else 0)
      split
      · have e : w0 (63 + 2 * (i / 60)) = (fun _ => 0) := by
          unfold w0
          rw [if_neg (by omega), if_neg (by omega), if_neg (by omega), if_neg (by omega), if_neg (by omega)]
        rw [e]; rfl
      · rfl
    | 4 => rfl
    | 5 =>
      show (if 0 ≤ i ∧ i < (0 : Int) then w0 4 i else 0) = (if 0 ≤ i ∧ i < (0 : Int) then w0 85 i else 0)
      rw [if_neg (by omega), if_neg (by omega)]
    | 6 =>
      show (if 0 ≤ i ∧ i < (0 : Int) then w0 14 i else 0) = (if 0 ≤ i ∧ i < (0 : Int) then w0 84 i else 0)
      rw [if_neg (by omega), if_neg (by omega)]
    | 7 => rfl
    | 8 => rfl
    | 9 =>
      show (if 0 ≤ i ∧ i < 3 ∧ (0 : Int) = 1 then w0 (70 + 2 * i) 2 else 0) = (if 0 ≤ i ∧ i < 3 ∧ 0 ≤ (-1 : Int) then w0 89 i else 0)
      rw [if_neg (by omega), if_neg (by omega)]
    | 10 =>
      show (if 0 ≤ i ∧ i < 42 ∧ (0 : Int) = 1 ∧ i % 14 < w0 (70 + 2 * (i / 14)) 1 then w0 (71 + 2 * (i / 14)) (i % 14) else 0) = (if 0 ≤ i ∧ i < 42 ∧ i % 14 < (-1 : Int) then w0 90 i else 0)
      rw [if_neg (by omega), if_neg (by omega)]
    | c + 11 => rfl
  refine ⟨by rw [hx]; exact hm, hx, fun k k0 k1 => Or.inl rfl, GI0_0, fun k k0 k1 q => absurd (show (0 : Int) = 1 from q) (by decide), ?_, fun i i0 i1 => Or.inl rfl⟩
  show (0 : Int) = nzc (fun _ => 0) 1024
  exact (nzc_zero 1024 (fun i i0 i1 => rfl)).symm
theorem Cls_known {own : String} {idx ci : Nat} {fs : List Value} {s : State} {args : Array Value} (hts : ∀ w ∈ lw_tbl, w.before args s = true) (h : Cls own idx ci fs) : ∃ p : ClassId × (Nat → Nat), ∀ q, clsL[ci]? = some q → u_Kn s q.1 q.2.1 q.2.2 p.1 p.2 := by
  obtain ⟨C, T, N, tys, f1, f2, f3, f4, f5, f6, f7, f8⟩ := h
  obtain ⟨cC, iS, hk⟩ := u_known hts f3 (hts _ f7)
  refine ⟨(cC, iS), fun q hq => ?_⟩
  rw [f1] at hq
  cases hq
  exact hk
theorem KK_start {s : State} {b : Nat} (hts : ∀ w ∈ lw_tbl, w.before #[Value.ref b] s = true) (hgv : (Jvm.Cond.and given_1 narrow_1).before #[Value.ref b] s = true) : ∃ (D : va_G) (K : Nat → ClassId), KK D K s := by
  have hc : ∀ ci : Nat, ∃ p : ClassId × (Nat → Nat), ∀ q, clsL[ci]? = some q → u_Kn s q.1 q.2.1 q.2.2 p.1 p.2 := fun ci => match ci with
    | 0 => Cls_known hts a_L_7
    | 1 => Cls_known hts a_X_9
    | 2 => Cls_known hts a_X_18
    | 3 => Cls_known hts a_X_33
    | 4 => Cls_known hts a_X_36
    | 5 => Cls_known hts a_X_39
    | 6 => Cls_known hts a_X_42
    | 7 => Cls_known hts a_X_45
    | 8 => Cls_known hts a_X_48
    | 9 => Cls_known hts a_X_59
    | 10 => Cls_known hts a_X_66
    | 11 => Cls_known hts a_X_73
    | 12 => Cls_known hts a_L_10
    | k + 13 => ⟨(0, fun _ => 0), fun q hq => by simp [clsL] at hq⟩
  have hp : ∀ (ty : FieldType), Cond.arrayClass ty ∈ lw_tbl → (∀ C, ty ≠ .object C) → ∃ kA : ClassId, ArrOfT s kA ty ∧ s.vm.findClass ("[" ++ ty.toString) = some kA := fun ty h _ => by
    obtain ⟨c, k, comp, h1, h2, h3⟩ := Cond.arrayClass_spec (hts _ h)
    exact ⟨c, fun n z => ⟨fun k h => (by cases h), k, h2, comp, h3⟩, h1⟩
  have ho : ∀ (C : String), Cond.arrayOver (.object C) ∈ lw_tbl → ∃ kA : ClassId, ArrOfT s kA (.object C) ∧ va_RA s kA (.object C) := fun C h => by
    obtain ⟨comp, c, k, h1, -, h2, h3, h4⟩ := Cond.arrayOver_spec (hts _ h)
    exact ⟨c, fun n z => ⟨fun k h => (by cases h), k, h2, comp, h3⟩, k, comp, h2, h3, h1, h4⟩
  have ht : ∀ t : Nat, ∃ kA : ClassId, t < 8 → ArrOfT s kA (tyC t) ∧ va_RA s kA (tyC t) := fun t => match t with
    | 0 => by obtain ⟨k, h1, h2⟩ := hp .int ac_int (fun _ q => by cases q); exact ⟨k, fun _ => ⟨h1, h2⟩⟩
    | 1 => by obtain ⟨k, h1, h2⟩ := hp .long ac_long (fun _ q => by cases q); exact ⟨k, fun _ => ⟨h1, h2⟩⟩
    | 2 => by obtain ⟨k, h1, h2⟩ := hp .byte ac_byte (fun _ q => by cases q); exact ⟨k, fun _ => ⟨h1, h2⟩⟩
    | 3 => by obtain ⟨k, h1, h2⟩ := hp .boolean ac_boolean (fun _ q => by cases q); exact ⟨k, fun _ => ⟨h1, h2⟩⟩
    | 4 => by obtain ⟨k, h⟩ := ho _ ao_Rw; exact ⟨k, fun _ => h⟩
    | 5 => by obtain ⟨k, h⟩ := ho _ ao_Gm; exact ⟨k, fun _ => h⟩
    | 6 => by obtain ⟨k, h⟩ := ho _ ao_Pl; exact ⟨k, fun _ => h⟩
    | 7 => by
      obtain ⟨comp, c, k, h1, -, h2, h3, h4⟩ := arrayOverA_spec (t := .long) (hts _ ao_long)
      exact ⟨c, fun _ => ⟨fun n z => ⟨fun k h => (by cases h), k, h2, comp, h3⟩, h4⟩⟩
    | k + 8 => ⟨0, fun q => absurd q (by omega)⟩
  obtain ⟨f, hf⟩ := Classical.axiomOfChoice hc
  obtain ⟨K, hK⟩ := Classical.axiomOfChoice ht
  refine ⟨(fun ci => (f ci).1, fun ci => (f ci).2), K, ⟨fun c q hq => hf c q hq, fun k q hq => ?_⟩, fun q hq => ?_, fun A w hw => ?_⟩
  · have hk : k < 8 := by
      have := (List.getElem?_eq_some_iff.mp hq).1
      simpa [tysL] using this
    rw [tysL_get hk] at hq
    cases hq
    exact hK k hk
  · simp only [ncL, List.mem_cons, List.mem_nil_iff, or_false] at hq
    repeat' (first | (rcases hq with rfl | hq) | (subst hq))
    all_goals exact va_Nc.of (flat_of_before _ hgv _ (by decide +kernel))
  · have h1 := (List.mem_filter.mp hw).1
    have hk := (List.mem_filter.mp hw).2
    have h0 := hts w h1
    cases w <;> first
      | exact va_tabs rfl rfl h0
      | (cases hk; done)
      | exact h0
