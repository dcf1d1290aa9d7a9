/-! part 91: the law's beginning -/
theorem GI0_0 : GI0 w0 3 := by
  show Mk 1 (rch 0 (fun _ => 0) 0)
  refine Mk_one rch_zero (fun v h0 h1 => ?_)
  rintro (⟨z, -⟩ | ⟨-, z⟩)
  · exact absurd z (by decide)
  · have z : v = 0 := z
    omega
theorem inv0 : Inv w0 := by
  have hm : OK (aM w0) := by
    refine ⟨fun r r0 r1 => ?_, fun i i0 i1 => ?_, fun r r0 r1 => ?_, fun i i0 i1 => ?_, Or.inl rfl, by decide, by decide, fun i i0 i1 => ?_, fun p q0 q1 => ?_, fun e => ?_, fun k k0 k1 => ?_⟩
    · have e : aM w0 0 r = -1 := if_pos ⟨r0, r1⟩
      rw [e]; decide
    · have e : aM w0 1 i = 0 := if_pos ⟨i0, i1⟩
      rw [e]; decide
    · have e : aM w0 2 r = -1 := if_pos ⟨r0, r1⟩
      rw [e]; decide
    · have e : aM w0 3 i = 0 := if_pos ⟨i0, i1⟩
      rw [e]; decide
    · have i1 : i < 0 := i1
      omega
    · have q1 : p < 0 := q1
      omega
    · have e : (0 : Int) = 13 := e
      omega
    · have e : aM w0 8 k = -1 := if_pos ⟨k0, k1⟩
      rw [e]
      exact ⟨by decide, by decide, fun q => absurd q (by decide), fun i i0 i1 => by omega, fun q => absurd q (by decide)⟩
  have hx : aX w0 = aM w0 := by
    funext c i
    match c with
    | 0 =>
      show (if 0 ≤ i ∧ i < 6 then w0 (50 + 2 * i) 1 else 0) = (if 0 ≤ i ∧ i < 6 then w0 78 i else 0)
      split
      · have e : w0 (50 + 2 * i) = (fun j => if j = 1 then -1 else 0) := if_pos (by omega)
        rw [e]; rfl
      · rfl
    | 1 =>
      show (if 0 ≤ i ∧ i < 360 then w0 (51 + 2 * (i / 60)) (i % 60) else 0) = (if 0 ≤ i ∧ i < 360 then w0 79 i else 0)
      split
      · have e : w0 (51 + 2 * (i / 60)) = (fun _ => 0) := by
          unfold w0
          rw [if_neg (by omega), if_neg (by omega), if_neg (by omega), if_neg (by omega), if_neg (by omega)]
        rw [e]; rfl
      · rfl
    | 2 =>
      show (if 0 ≤ i ∧ i < 4 then w0 (62 + 2 * i) 1 else 0) = (if 0 ≤ i ∧ i < 4 then w0 81 i else 0)
      split
      · have e : w0 (62 + 2 * i) = (fun j => if j = 1 then -1 else 0) := if_pos (by omega)
        rw [e]; rfl
      · rfl
    | 3 =>
      show (if 0 ≤ i ∧ i < 240 then w0 (63 + 2 * (i / 60)) (i % 60) else 0) = (if 0 ≤ i ∧ i < 240 then w0 82 i else 0)
      split
      · have e : w0 (63 + 2 * (i / 60)) = (fun _ => 0) := by
          unfold w0
          rw [if_neg (by omega), if_neg (by omega), if_neg (by omega), if_neg (by omega), if_neg (by omega)]
        rw [e]; rfl
      · rfl
    | 4 => rfl
    | 5 =>
      show (if 0 ≤ i ∧ i < (0 : Int) then w0 4 i else 0) = (if 0 ≤ i ∧ i < (0 : Int) then w0 85 i else 0)
      rw [if_neg (by omega), if_neg (by omega)]
    | 6 =>
      show (if 0 ≤ i ∧ i < (0 : Int) then w0 14 i else 0) = (if 0 ≤ i ∧ i < (0 : Int) then w0 84 i else 0)
      rw [if_neg (by omega), if_neg (by omega)]
    | 7 => rfl
    | 8 => rfl
    | 9 =>
      show (if 0 ≤ i ∧ i < 3 ∧ (0 : Int) = 1 then w0 (70 + 2 * i) 2 else 0) = (if 0 ≤ i ∧ i < 3 ∧ 0 ≤ (-1 : Int) then w0 89 i else 0)
      rw [if_neg (by omega), if_neg (by omega)]
    | 10 =>
      show (if 0 ≤ i ∧ i < 42 ∧ (0 : Int) = 1 ∧ i % 14 < w0 (70 + 2 * (i / 14)) 1 then w0 (71 + 2 * (i / 14)) (i % 14) else 0) = (if 0 ≤ i ∧ i < 42 ∧ i % 14 < (-1 : Int) then w0 90 i else 0)
      rw [if_neg (by omega), if_neg (by omega)]
    | c + 11 => rfl
  refine ⟨by rw [hx]; exact hm, hx, fun k k0 k1 => Or.inl rfl, GI0_0, fun k k0 k1 q => absurd (show (0 : Int) = 1 from q) (by decide), ?_, fun i i0 i1 => Or.inl rfl⟩
  show (0 : Int) = nzc (fun _ => 0) 1024
  exact (nzc_zero 1024 (fun i i0 i1 => rfl)).symm
