/-! part 53: the state stays one that calls can come to -/
theorem OK_fd {s : Sta} {f : Int} (h : OK s) : OK (fdS s f).2 := h
theorem OK_aside {s : Sta} {v : Int} (h : OK s) : OK (ss s 4 3 v) := h
theorem OK_up {s : Sta} {v : Int} (h : OK s) : OK (ss s 4 4 v) := h
theorem OK_lo {s : Sta} {v : Int} (h : OK s) : OK (ss s 4 5 v) := h
theorem OK_rs {s : Sta} {r v : Int} (h : OK s) (hv : -1 ≤ v ∧ v ≤ 60) : OK (ss s 0 r v) := by
  refine ⟨fun q q0 q1 => ?_, h.2⟩
  unfold ss
  split
  · exact hv
  · exact h.1 q q0 q1
theorem OK_rp {s : Sta} {r v : Int} (h : OK s) (hv : R3 v) : OK (ss s 1 r v) := by
  refine ⟨h.1, fun q q0 q1 => ?_, h.2.2⟩
  unfold ss
  split
  · exact hv
  · exact h.2.1 q q0 q1
theorem OK_ts {s : Sta} {r v : Int} (h : OK s) (hv : -1 ≤ v ∧ v ≤ 60) : OK (ss s 2 r v) := by
  refine ⟨h.1, h.2.1, fun q q0 q1 => ?_, h.2.2.2⟩
  unfold ss
  split
  · exact hv
  · exact h.2.2.1 q q0 q1
theorem OK_tp {s : Sta} {r v : Int} (h : OK s) (hv : -128 ≤ v ∧ v ≤ 127) : OK (ss s 3 r v) := by
  refine ⟨h.1, h.2.1, h.2.2.1, fun q q0 q1 => ?_, h.2.2.2.2⟩
  unfold ss
  split
  · exact hv
  · exact h.2.2.2.1 q q0 q1
theorem OK_rr {s : Sta} {r : Int} (h : OK s) : OK (sr s 1 r (fun _ => 0)) := by
  refine ⟨h.1, fun q q0 q1 => ?_, h.2.2⟩
  unfold sr
  split
  · show R3 0; omega
  · exact h.2.1 q q0 q1
theorem OK_tr {s : Sta} {r : Int} (h : OK s) : OK (sr s 3 r (fun _ => 32)) := by
  refine ⟨h.1, h.2.1, h.2.2.1, fun q q0 q1 => ?_, h.2.2.2.2⟩
  unfold sr
  split
  · show -128 ≤ (32 : Int) ∧ (32 : Int) ≤ 127; omega
  · exact h.2.2.2.1 q q0 q1
theorem OK.row {s : Sta} {r n : Int} (h : OK s) : OK (sp_row s r n).2 := by
  unfold sp_row
  split
  · exact h
  · split
    · exact OK_fd h
    · exact OK_rs (OK_rr h) (by omega)
theorem OK.lay {s : Sta} {r i v : Int} (h : OK s) (hv : R3 v) : OK (sp_lay s r i v).2 := by
  unfold sp_lay
  split
  · exact h
  · split
    · exact OK_fd h
    · split
      · exact OK_fd h
      · exact OK_rp (OK_aside h) hv
theorem OK.at' {s : Sta} {r i : Int} (h : OK s) : OK (sp_at s r i).2 := by
  unfold sp_at
  split
  · exact h
  · split
    · exact OK_fd h
    · split
      · exact OK_fd h
      · exact OK_aside h
theorem OK.tear {s : Sta} {r : Int} (h : OK s) : OK (sp_tear s r).2 := by
  unfold sp_tear
  split
  · exact h
  · split
    · exact OK_fd h
    · exact OK_rs h (by omega)
theorem OK.mean {s : Sta} {r : Int} (h : OK s) : OK (sp_mean s r).2 := by
  unfold sp_mean
  split
  · exact h
  · split
    · exact OK_fd h
    · split
      · exact OK_fd h
      · exact OK_aside h
theorem OK.text {s : Sta} {r n : Int} (h : OK s) : OK (sp_text s r n).2 := by
  unfold sp_text
  split
  · exact h
  · split
    · exact OK_fd h
    · exact OK_ts (OK_tr h) (by omega)
theorem OK.said {s : Sta} {i : Int} (h : OK s) : OK (sp_said s i).2 := by
  unfold sp_said
  split
  · exact h
  · split
    · exact h
    · exact OK_fd h
theorem OK.turn {s : Sta} (h : OK s) : OK (sp_turn s).2 := OK_aside h
theorem OK.undo {s : Sta} {i : Int} (h : OK s) : OK (sp_undo s i).2 := by
  have hn := h.nn
  unfold sp_undo
  split
  · exact h
  · exact OK_sg h h.law (by omega) (fun j j0 j1 => h.num j j0 (by omega)) (fun e => h.l13 (by omega))
theorem OK.on {s : Sta} {k : Int} (h : OK s) : OK (sp_on s k).2 := by
  unfold sp_on
  split
  · exact h
  · split
    · exact OK_fd h
    · obtain ⟨a1, a2, a3, a4, a5⟩ := h.kk k (by omega) (by omega)
      exact OK_sg h (a3 (by omega)) (by omega) a4 a5
theorem OK.say' {s : Sta} {v : Int} (h : OK s) : OK (sp_say s v).2 := by
  unfold sp_say
  split
  · exact h
  · split
    · exact h
    · rename_i h1 h2
      split
      · exact h
      · rename_i h3
        exact (h.say (v := v) (by omega) (fun q => h2 (Or.inl (bi_t q))) h3).2
theorem byI_bd {v : Int} : -128 ≤ byI v ∧ byI v ≤ 127 := by
  unfold byI
  rw [Int8.toInt_toInt32]
  exact ⟨Int8.le_toInt _, by have := Int8.toInt_lt (Int32.ofInt v).toInt8; omega⟩
theorem OK.put {s : Sta} {r i v : Int} (h : OK s) : OK (sp_put s r i v).2 := by
  unfold sp_put
  split
  · exact h
  · split
    · exact OK_fd h
    · split
      · exact OK_fd h
      · exact OK_tp h byI_bd
theorem OK.keep {s : Sta} {k : Int} (h : OK s) : OK (sp_keep s k).2 := by
  unfold sp_keep
  split
  · exact h
  · have hn := h.nn
    obtain ⟨a1, a2, a3, a4, a5, a6, a7, a8, a9, a10, a11⟩ := h
    refine ⟨a1, a2, a3, a4, a5, a6, a7, a8, a9, a10, fun q q0 q1 => ?_⟩
    obtain ⟨b1, b2, b3, b4, b5⟩ := a11 q q0 q1
    by_cases e : q = k
    · subst e
      have e8 : (s 4 1, sk s q (s 4 0) (s 4 1) (s 5)).2 8 q = s 4 1 := if_pos ⟨rfl, rfl⟩
      have e9 : (s 4 1, sk s q (s 4 0) (s 4 1) (s 5)).2 9 q = s 4 0 := if_pos ⟨rfl, rfl⟩
      have e10 : ∀ i, 0 ≤ i → i < 14 → i < s 4 1 → (s 4 1, sk s q (s 4 0) (s 4 1) (s 5)).2 10 (14 * q + i) = s 5 i := fun i i0 i1 i2 => by
        show (if (10 : Nat) = 10 ∧ 14 * q ≤ 14 * q + i ∧ 14 * q + i < 14 * q + 14 then (if 14 * q + i - 14 * q < s 4 1 then s 5 (14 * q + i - 14 * q) else 0) else _) = _
        rw [if_pos ⟨rfl, by omega, by omega⟩, show 14 * q + i - 14 * q = i by omega, if_pos i2]
      rw [e8, e9]
      refine ⟨by omega, by omega, fun _ => a5, fun i i0 i1 => ?_, fun e => ?_⟩
      · rw [e10 i i0 (by omega) i1]
        exact a8 i i0 i1
      · rw [e10 12 (by omega) (by omega) (by omega)]
        exact a10 e
    · have e8 : (s 4 1, sk s k (s 4 0) (s 4 1) (s 5)).2 8 q = s 8 q := if_neg (fun z => e z.2)
      have e9 : (s 4 1, sk s k (s 4 0) (s 4 1) (s 5)).2 9 q = s 9 q := if_neg (fun z => e z.2)
      have e10 : ∀ i, 0 ≤ i → i < 14 → (s 4 1, sk s k (s 4 0) (s 4 1) (s 5)).2 10 (14 * q + i) = s 10 (14 * q + i) := fun i i0 i1 => if_neg (fun z => by omega)
      rw [e8, e9]
      refine ⟨b1, b2, b3, fun i i0 i1 => ?_, fun e => ?_⟩
      · rw [e10 i i0 (by omega)]
        exact b4 i i0 i1
      · rw [e10 12 (by omega) (by omega)]
        exact b5 e
theorem OK.copy {s : Sta} {r i t j n : Int} (h : OK s) : OK (sp_copy s r i t j n).2 := by
  unfold sp_copy
  split
  · exact h
  · split
    · exact OK_fd h
    · split
      · exact OK_fd h
      · split
        · exact OK_fd h
        · have b1 := h.1 r (by omega) (by omega)
          have b2 := h.1 t (by omega) (by omega)
          refine ⟨h.1, fun q q0 q1 => ?_, h.2.2⟩
          show R3 (cpyS (s 1) (60 * r + i) (60 * t + j) n q)
          unfold cpyS
          split
          · exact h.2.1 _ (by omega) (by omega)
          · exact h.2.1 q q0 q1
