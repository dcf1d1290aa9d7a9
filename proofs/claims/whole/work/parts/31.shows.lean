/-! part 31: how single changes show: printed by program -/
theorem aXc0 {w w' : Mem} (h : ∀ r : Int, 0 ≤ r → r < 6 → w' (50 + 2 * r) 1 = w (50 + 2 * r) 1) : aX w' 0 = aX w 0 := by
  funext i
  show (if _ then _ else _) = (if _ then _ else _)
  split
  · rename_i e; exact h i e.1 e.2
  · rfl
theorem aXc2 {w w' : Mem} (h : ∀ r : Int, 0 ≤ r → r < 4 → w' (62 + 2 * r) 1 = w (62 + 2 * r) 1) : aX w' 2 = aX w 2 := by
  funext i
  show (if _ then _ else _) = (if _ then _ else _)
  split
  · rename_i e; exact h i e.1 e.2
  · rfl
theorem aXc1 {w w' : Mem} (h : ∀ r i : Int, 0 ≤ r → r < 6 → 0 ≤ i → i < 60 → w' (51 + 2 * r) i = w (51 + 2 * r) i) : aX w' 1 = aX w 1 := by
  funext i
  show (if _ then _ else _) = (if _ then _ else _)
  split
  · rename_i e; exact h (i / 60) (i % 60) (by omega) (by omega) (by omega) (by omega)
  · rfl
theorem aXc3 {w w' : Mem} (h : ∀ r i : Int, 0 ≤ r → r < 4 → 0 ≤ i → i < 60 → w' (63 + 2 * r) i = w (63 + 2 * r) i) : aX w' 3 = aX w 3 := by
  funext i
  show (if _ then _ else _) = (if _ then _ else _)
  split
  · rename_i e; exact h (i / 60) (i % 60) (by omega) (by omega) (by omega) (by omega)
  · rfl
theorem aXc4 {w w' : Mem} (h : w' 3 2 = w 3 2 ∧ w' 3 1 = w 3 1 ∧ w' 0 7 = w 0 7 ∧ w' 0 11 = w 0 11 ∧ w' 0 12 = w 0 12 ∧ w' 0 13 = w 0 13 ∧ w' 0 14 = w 0 14) : aX w' 4 = aX w 4 := by
  funext i
  simp only [aX, h]
theorem aXc5 {w w' : Mem} (h1 : w' 3 1 = w 3 1) (h : ∀ i : Int, 0 ≤ i → i < w 3 1 → w' 4 i = w 4 i) : aX w' 5 = aX w 5 := by
  funext i
  show (if _ then _ else _) = (if _ then _ else _)
  rw [h1]
  split
  · rename_i e; exact h i e.1 e.2
  · rfl
theorem aXc6 {w w' : Mem} (h1 : w' 0 7 = w 0 7) (h : ∀ i : Int, 0 ≤ i → i < w 0 7 → w' 14 i = w 14 i) : aX w' 6 = aX w 6 := by
  funext i
  show (if _ then _ else _) = (if _ then _ else _)
  rw [h1]
  split
  · rename_i e; exact h i e.1 e.2
  · rfl
theorem aXc7 {w w' : Mem} (h : ∀ i : Int, 1 ≤ i → i ≤ 5 → w' 49 i = w 49 i) : aX w' 7 = aX w 7 := by
  funext i
  show (if _ then _ else _) = (if _ then _ else _)
  split
  · rename_i e; exact h i e.1 e.2
  · rfl
theorem aXc8 {w w' : Mem} (h : ∀ k : Int, 0 ≤ k → k < 3 → w' 6 k = w 6 k ∧ (w 6 k = 1 → w' (70 + 2 * k) 1 = w (70 + 2 * k) 1)) : aX w' 8 = aX w 8 := by
  funext i
  show (if _ then (if _ then _ else _) else _) = (if _ then (if _ then _ else _) else _)
  split
  · rename_i e
    have := h i e.1 e.2
    rw [this.1]
    split
    · rename_i e2; exact this.2 e2
    · rfl
  · rfl
theorem aXc9 {w w' : Mem} (h : ∀ k : Int, 0 ≤ k → k < 3 → w' 6 k = w 6 k ∧ (w 6 k = 1 → w' (70 + 2 * k) 2 = w (70 + 2 * k) 2)) : aX w' 9 = aX w 9 := by
  funext i
  show (if _ then _ else _) = (if _ then _ else _)
  by_cases e : 0 ≤ i ∧ i < 3
  · have := h i e.1 e.2
    rw [this.1]
    split
    · rename_i e2; exact this.2 e2.2.2
    · rfl
  · rw [if_neg (fun z => e ⟨z.1, z.2.1⟩), if_neg (fun z => e ⟨z.1, z.2.1⟩)]
theorem aXc10 {w w' : Mem} (h : ∀ k : Int, 0 ≤ k → k < 3 → w' 6 k = w 6 k ∧ (w 6 k = 1 → w' (70 + 2 * k) 1 = w (70 + 2 * k) 1 ∧ ∀ j : Int, 0 ≤ j → j < w (70 + 2 * k) 1 → w' (71 + 2 * k) j = w (71 + 2 * k) j)) : aX w' 10 = aX w 10 := by
  funext i
  show (if _ then _ else _) = (if _ then _ else _)
  by_cases e : 0 ≤ i ∧ i < 42 ∧ w 6 (i / 14) = 1
  · have := h (i / 14) (by omega) (by omega)
    have h2 := this.2 e.2.2
    rw [this.1, h2.1]
    split
    · rename_i e2; exact h2.2 (i % 14) (by omega) e2.2.2.2
    · rfl
  · by_cases e3 : 0 ≤ i ∧ i < 42
    · have := h (i / 14) (by omega) (by omega)
      rw [if_neg (fun z => e ⟨z.1, z.2.1, by rw [← this.1]; exact z.2.2.1⟩), if_neg (fun z => e ⟨z.1, z.2.1, z.2.2.1⟩)]
    · rw [if_neg (fun z => e3 ⟨z.1, z.2.1⟩), if_neg (fun z => e3 ⟨z.1, z.2.1⟩)]
theorem aX_u11 {w : Mem} {v : Int} : aX (wu w 0 11 v) = ss (aX w) 4 3 v := by
  refine sta_ext (aXc0 (fun r _ _ => (by first | (rw [wu_ne (by omega)]; done) | (rw [wu_get, if_neg (by omega)]; done)))) (aXc1 (fun r i _ _ _ _ => (by first | (rw [wu_ne (by omega)]; done) | (rw [wu_get, if_neg (by omega)]; done)))) (aXc2 (fun r _ _ => (by first | (rw [wu_ne (by omega)]; done) | (rw [wu_get, if_neg (by omega)]; done)))) (aXc3 (fun r i _ _ _ _ => (by first | (rw [wu_ne (by omega)]; done) | (rw [wu_get, if_neg (by omega)]; done)))) ?_ (aXc5 (by first | (rw [wu_ne (by omega)]; done) | (rw [wu_get, if_neg (by omega)]; done)) (fun i _ _ => (by first | (rw [wu_ne (by omega)]; done) | (rw [wu_get, if_neg (by omega)]; done)))) (aXc6 (by first | (rw [wu_ne (by omega)]; done) | (rw [wu_get, if_neg (by omega)]; done)) (fun i _ _ => (by first | (rw [wu_ne (by omega)]; done) | (rw [wu_get, if_neg (by omega)]; done)))) (aXc7 (fun i _ _ => (by first | (rw [wu_ne (by omega)]; done) | (rw [wu_get, if_neg (by omega)]; done)))) (aXc8 (fun k _ _ => ⟨(by first | (rw [wu_ne (by omega)]; done) | (rw [wu_get, if_neg (by omega)]; done)), fun _ => (by first | (rw [wu_ne (by omega)]; done) | (rw [wu_get, if_neg (by omega)]; done))⟩)) (aXc9 (fun k _ _ => ⟨(by first | (rw [wu_ne (by omega)]; done) | (rw [wu_get, if_neg (by omega)]; done)), fun _ => (by first | (rw [wu_ne (by omega)]; done) | (rw [wu_get, if_neg (by omega)]; done))⟩)) (aXc10 (fun k _ _ => ⟨(by first | (rw [wu_ne (by omega)]; done) | (rw [wu_get, if_neg (by omega)]; done)), fun _ => ⟨(by first | (rw [wu_ne (by omega)]; done) | (rw [wu_get, if_neg (by omega)]; done)), fun j _ _ => (by first | (rw [wu_ne (by omega)]; done) | (rw [wu_get, if_neg (by omega)]; done))⟩⟩)) (fun _ => rfl)
  funext j
  simp only [aX, ss, wu_get, true_and]
  by_cases e : j = 3
  · subst e; rfl
  · simp [e]
theorem aX_u12 {w : Mem} {v : Int} : aX (wu w 0 12 v) = ss (aX w) 4 4 v := by
  refine sta_ext (aXc0 (fun r _ _ => (by first | (rw [wu_ne (by omega)]; done) | (rw [wu_get, if_neg (by omega)]; done)))) (aXc1 (fun r i _ _ _ _ => (by first | (rw [wu_ne (by omega)]; done) | (rw [wu_get, if_neg (by omega)]; done)))) (aXc2 (fun r _ _ => (by first | (rw [wu_ne (by omega)]; done) | (rw [wu_get, if_neg (by omega)]; done)))) (aXc3 (fun r i _ _ _ _ => (by first | (rw [wu_ne (by omega)]; done) | (rw [wu_get, if_neg (by omega)]; done)))) ?_ (aXc5 (by first | (rw [wu_ne (by omega)]; done) | (rw [wu_get, if_neg (by omega)]; done)) (fun i _ _ => (by first | (rw [wu_ne (by omega)]; done) | (rw [wu_get, if_neg (by omega)]; done)))) (aXc6 (by first | (rw [wu_ne (by omega)]; done) | (rw [wu_get, if_neg (by omega)]; done)) (fun i _ _ => (by first | (rw [wu_ne (by omega)]; done) | (rw [wu_get, if_neg (by omega)]; done)))) (aXc7 (fun i _ _ => (by first | (rw [wu_ne (by omega)]; done) | (rw [wu_get, if_neg (by omega)]; done)))) (aXc8 (fun k _ _ => ⟨(by first | (rw [wu_ne (by omega)]; done) | (rw [wu_get, if_neg (by omega)]; done)), fun _ => (by first | (rw [wu_ne (by omega)]; done) | (rw [wu_get, if_neg (by omega)]; done))⟩)) (aXc9 (fun k _ _ => ⟨(by first | (rw [wu_ne (by omega)]; done) | (rw [wu_get, if_neg (by omega)]; done)), fun _ => (by first | (rw [wu_ne (by omega)]; done) | (rw [wu_get, if_neg (by omega)]; done))⟩)) (aXc10 (fun k _ _ => ⟨(by first | (rw [wu_ne (by omega)]; done) | (rw [wu_get, if_neg (by omega)]; done)), fun _ => ⟨(by first | (rw [wu_ne (by omega)]; done) | (rw [wu_get, if_neg (by omega)]; done)), fun j _ _ => (by first | (rw [wu_ne (by omega)]; done) | (rw [wu_get, if_neg (by omega)]; done))⟩⟩)) (fun _ => rfl)
  funext j
  simp only [aX, ss, wu_get, true_and]
  by_cases e : j = 4
  · subst e; rfl
  · simp [e]
theorem aX_u13 {w : Mem} {v : Int} : aX (wu w 0 13 v) = ss (aX w) 4 5 v := by
  refine sta_ext (aXc0 (fun r _ _ => (by first | (rw [wu_ne (by omega)]; done) | (rw [wu_get, if_neg (by omega)]; done)))) (aXc1 (fun r i _ _ _ _ => (by first | (rw [wu_ne (by omega)]; done) | (rw [wu_get, if_neg (by omega)]; done)))) (aXc2 (fun r _ _ => (by first | (rw [wu_ne (by omega)]; done) | (rw [wu_get, if_neg (by omega)]; done)))) (aXc3 (fun r i _ _ _ _ => (by first | (rw [wu_ne (by omega)]; done) | (rw [wu_get, if_neg (by omega)]; done)))) ?_ (aXc5 (by first | (rw [wu_ne (by omega)]; done) | (rw [wu_get, if_neg (by omega)]; done)) (fun i _ _ => (by first | (rw [wu_ne (by omega)]; done) | (rw [wu_get, if_neg (by omega)]; done)))) (aXc6 (by first | (rw [wu_ne (by omega)]; done) | (rw [wu_get, if_neg (by omega)]; done)) (fun i _ _ => (by first | (rw [wu_ne (by omega)]; done) | (rw [wu_get, if_neg (by omega)]; done)))) (aXc7 (fun i _ _ => (by first | (rw [wu_ne (by omega)]; done) | (rw [wu_get, if_neg (by omega)]; done)))) (aXc8 (fun k _ _ => ⟨(by first | (rw [wu_ne (by omega)]; done) | (rw [wu_get, if_neg (by omega)]; done)), fun _ => (by first | (rw [wu_ne (by omega)]; done) | (rw [wu_get, if_neg (by omega)]; done))⟩)) (aXc9 (fun k _ _ => ⟨(by first | (rw [wu_ne (by omega)]; done) | (rw [wu_get, if_neg (by omega)]; done)), fun _ => (by first | (rw [wu_ne (by omega)]; done) | (rw [wu_get, if_neg (by omega)]; done))⟩)) (aXc10 (fun k _ _ => ⟨(by first | (rw [wu_ne (by omega)]; done) | (rw [wu_get, if_neg (by omega)]; done)), fun _ => ⟨(by first | (rw [wu_ne (by omega)]; done) | (rw [wu_get, if_neg (by omega)]; done)), fun j _ _ => (by first | (rw [wu_ne (by omega)]; done) | (rw [wu_get, if_neg (by omega)]; done))⟩⟩)) (fun _ => rfl)
  funext j
  simp only [aX, ss, wu_get, true_and]
  by_cases e : j = 5
  · subst e; rfl
  · simp [e]
theorem aX_u14 {w : Mem} {v : Int} : aX (wu w 0 14 v) = ss (aX w) 4 6 v := by
  refine sta_ext (aXc0 (fun r _ _ => (by first | (rw [wu_ne (by omega)]; done) | (rw [wu_get, if_neg (by omega)]; done)))) (aXc1 (fun r i _ _ _ _ => (by first | (rw [wu_ne (by omega)]; done) | (rw [wu_get, if_neg (by omega)]; done)))) (aXc2 (fun r _ _ => (by first | (rw [wu_ne (by omega)]; done) | (rw [wu_get, if_neg (by omega)]; done)))) (aXc3 (fun r i _ _ _ _ => (by first | (rw [wu_ne (by omega)]; done) | (rw [wu_get, if_neg (by omega)]; done)))) ?_ (aXc5 (by first | (rw [wu_ne (by omega)]; done) | (rw [wu_get, if_neg (by omega)]; done)) (fun i _ _ => (by first | (rw [wu_ne (by omega)]; done) | (rw [wu_get, if_neg (by omega)]; done)))) (aXc6 (by first | (rw [wu_ne (by omega)]; done) | (rw [wu_get, if_neg (by omega)]; done)) (fun i _ _ => (by first | (rw [wu_ne (by omega)]; done) | (rw [wu_get, if_neg (by omega)]; done)))) (aXc7 (fun i _ _ => (by first | (rw [wu_ne (by omega)]; done) | (rw [wu_get, if_neg (by omega)]; done)))) (aXc8 (fun k _ _ => ⟨(by first | (rw [wu_ne (by omega)]; done) | (rw [wu_get, if_neg (by omega)]; done)), fun _ => (by first | (rw [wu_ne (by omega)]; done) | (rw [wu_get, if_neg (by omega)]; done))⟩)) (aXc9 (fun k _ _ => ⟨(by first | (rw [wu_ne (by omega)]; done) | (rw [wu_get, if_neg (by omega)]; done)), fun _ => (by first | (rw [wu_ne (by omega)]; done) | (rw [wu_get, if_neg (by omega)]; done))⟩)) (aXc10 (fun k _ _ => ⟨(by first | (rw [wu_ne (by omega)]; done) | (rw [wu_get, if_neg (by omega)]; done)), fun _ => ⟨(by first | (rw [wu_ne (by omega)]; done) | (rw [wu_get, if_neg (by omega)]; done)), fun j _ _ => (by first | (rw [wu_ne (by omega)]; done) | (rw [wu_get, if_neg (by omega)]; done))⟩⟩)) (fun _ => rfl)
  funext j
  simp only [aX, ss, wu_get, true_and]
  by_cases e : j = 6
  · subst e; rfl
  · simp [e]
theorem aX_u49 {w : Mem} {f v : Int} (hf : 1 ≤ f ∧ f ≤ 5) : aX (wu w 49 f v) = ss (aX w) 7 f v := by
  refine sta_ext (aXc0 (fun r _ _ => (by first | (rw [wu_ne (by omega)]; done) | (rw [wu_get, if_neg (by omega)]; done)))) (aXc1 (fun r i _ _ _ _ => (by first | (rw [wu_ne (by omega)]; done) | (rw [wu_get, if_neg (by omega)]; done)))) (aXc2 (fun r _ _ => (by first | (rw [wu_ne (by omega)]; done) | (rw [wu_get, if_neg (by omega)]; done)))) (aXc3 (fun r i _ _ _ _ => (by first | (rw [wu_ne (by omega)]; done) | (rw [wu_get, if_neg (by omega)]; done)))) (aXc4 ⟨(by first | (rw [wu_ne (by omega)]; done) | (rw [wu_get, if_neg (by omega)]; done)), (by first | (rw [wu_ne (by omega)]; done) | (rw [wu_get, if_neg (by omega)]; done)), (by first | (rw [wu_ne (by omega)]; done) | (rw [wu_get, if_neg (by omega)]; done)), (by first | (rw [wu_ne (by omega)]; done) | (rw [wu_get, if_neg (by omega)]; done)), (by first | (rw [wu_ne (by omega)]; done) | (rw [wu_get, if_neg (by omega)]; done)), (by first | (rw [wu_ne (by omega)]; done) | (rw [wu_get, if_neg (by omega)]; done)), (by first | (rw [wu_ne (by omega)]; done) | (rw [wu_get, if_neg (by omega)]; done))⟩) (aXc5 (by first | (rw [wu_ne (by omega)]; done) | (rw [wu_get, if_neg (by omega)]; done)) (fun i _ _ => (by first | (rw [wu_ne (by omega)]; done) | (rw [wu_get, if_neg (by omega)]; done)))) (aXc6 (by first | (rw [wu_ne (by omega)]; done) | (rw [wu_get, if_neg (by omega)]; done)) (fun i _ _ => (by first | (rw [wu_ne (by omega)]; done) | (rw [wu_get, if_neg (by omega)]; done)))) ?_ (aXc8 (fun k _ _ => ⟨(by first | (rw [wu_ne (by omega)]; done) | (rw [wu_get, if_neg (by omega)]; done)), fun _ => (by first | (rw [wu_ne (by omega)]; done) | (rw [wu_get, if_neg (by omega)]; done))⟩)) (aXc9 (fun k _ _ => ⟨(by first | (rw [wu_ne (by omega)]; done) | (rw [wu_get, if_neg (by omega)]; done)), fun _ => (by first | (rw [wu_ne (by omega)]; done) | (rw [wu_get, if_neg (by omega)]; done))⟩)) (aXc10 (fun k _ _ => ⟨(by first | (rw [wu_ne (by omega)]; done) | (rw [wu_get, if_neg (by omega)]; done)), fun _ => ⟨(by first | (rw [wu_ne (by omega)]; done) | (rw [wu_get, if_neg (by omega)]; done)), fun j _ _ => (by first | (rw [wu_ne (by omega)]; done) | (rw [wu_get, if_neg (by omega)]; done))⟩⟩)) (fun _ => rfl)
  funext j
  simp only [aX, ss, wu_get, true_and]
  by_cases e : j = f
  · rw [if_pos e, if_pos (by omega), if_pos e]
  · rw [if_neg e, if_neg e]
theorem aX_rs {w : Mem} {r v : Int} (h : 0 ≤ r ∧ r < 6) : aX (wu w (50 + 2 * r) 1 v) = ss (aX w) 0 r v := by
  refine sta_ext ?_ (aXc1 (fun r i _ _ _ _ => (by first | (rw [wu_ne (by omega)]; done) | (rw [wu_get, if_neg (by omega)]; done)))) (aXc2 (fun r _ _ => (by first | (rw [wu_ne (by omega)]; done) | (rw [wu_get, if_neg (by omega)]; done)))) (aXc3 (fun r i _ _ _ _ => (by first | (rw [wu_ne (by omega)]; done) | (rw [wu_get, if_neg (by omega)]; done)))) (aXc4 ⟨(by first | (rw [wu_ne (by omega)]; done) | (rw [wu_get, if_neg (by omega)]; done)), (by first | (rw [wu_ne (by omega)]; done) | (rw [wu_get, if_neg (by omega)]; done)), (by first | (rw [wu_ne (by omega)]; done) | (rw [wu_get, if_neg (by omega)]; done)), (by first | (rw [wu_ne (by omega)]; done) | (rw [wu_get, if_neg (by omega)]; done)), (by first | (rw [wu_ne (by omega)]; done) | (rw [wu_get, if_neg (by omega)]; done)), (by first | (rw [wu_ne (by omega)]; done) | (rw [wu_get, if_neg (by omega)]; done)), (by first | (rw [wu_ne (by omega)]; done) | (rw [wu_get, if_neg (by omega)]; done))⟩) (aXc5 (by first | (rw [wu_ne (by omega)]; done) | (rw [wu_get, if_neg (by omega)]; done)) (fun i _ _ => (by first | (rw [wu_ne (by omega)]; done) | (rw [wu_get, if_neg (by omega)]; done)))) (aXc6 (by first | (rw [wu_ne (by omega)]; done) | (rw [wu_get, if_neg (by omega)]; done)) (fun i _ _ => (by first | (rw [wu_ne (by omega)]; done) | (rw [wu_get, if_neg (by omega)]; done)))) (aXc7 (fun i _ _ => (by first | (rw [wu_ne (by omega)]; done) | (rw [wu_get, if_neg (by omega)]; done)))) (aXc8 (fun k _ _ => ⟨(by first | (rw [wu_ne (by omega)]; done) | (rw [wu_get, if_neg (by omega)]; done)), fun _ => (by first | (rw [wu_ne (by omega)]; done) | (rw [wu_get, if_neg (by omega)]; done))⟩)) (aXc9 (fun k _ _ => ⟨(by first | (rw [wu_ne (by omega)]; done) | (rw [wu_get, if_neg (by omega)]; done)), fun _ => (by first | (rw [wu_ne (by omega)]; done) | (rw [wu_get, if_neg (by omega)]; done))⟩)) (aXc10 (fun k _ _ => ⟨(by first | (rw [wu_ne (by omega)]; done) | (rw [wu_get, if_neg (by omega)]; done)), fun _ => ⟨(by first | (rw [wu_ne (by omega)]; done) | (rw [wu_get, if_neg (by omega)]; done)), fun j _ _ => (by first | (rw [wu_ne (by omega)]; done) | (rw [wu_get, if_neg (by omega)]; done))⟩⟩)) (fun _ => rfl)
  funext j
  simp only [aX, ss, wu_get, true_and]
  by_cases e : j = r
  · subst e; simp [h]
  · rw [if_neg e]
    split
    · rw [if_neg (by omega)]
    · rfl
theorem aX_ts {w : Mem} {r v : Int} (h : 0 ≤ r ∧ r < 4) : aX (wu w (62 + 2 * r) 1 v) = ss (aX w) 2 r v := by
  refine sta_ext (aXc0 (fun r _ _ => (by first | (rw [wu_ne (by omega)]; done) | (rw [wu_get, if_neg (by omega)]; done)))) (aXc1 (fun r i _ _ _ _ => (by first | (rw [wu_ne (by omega)]; done) | (rw [wu_get, if_neg (by omega)]; done)))) ?_ (aXc3 (fun r i _ _ _ _ => (by first | (rw [wu_ne (by omega)]; done) | (rw [wu_get, if_neg (by omega)]; done)))) (aXc4 ⟨(by first | (rw [wu_ne (by omega)]; done) | (rw [wu_get, if_neg (by omega)]; done)), (by first | (rw [wu_ne (by omega)]; done) | (rw [wu_get, if_neg (by omega)]; done)), (by first | (rw [wu_ne (by omega)]; done) | (rw [wu_get, if_neg (by omega)]; done)), (by first | (rw [wu_ne (by omega)]; done) | (rw [wu_get, if_neg (by omega)]; done)), (by first | (rw [wu_ne (by omega)]; done) | (rw [wu_get, if_neg (by omega)]; done)), (by first | (rw [wu_ne (by omega)]; done) | (rw [wu_get, if_neg (by omega)]; done)), (by first | (rw [wu_ne (by omega)]; done) | (rw [wu_get, if_neg (by omega)]; done))⟩) (aXc5 (by first | (rw [wu_ne (by omega)]; done) | (rw [wu_get, if_neg (by omega)]; done)) (fun i _ _ => (by first | (rw [wu_ne (by omega)]; done) | (rw [wu_get, if_neg (by omega)]; done)))) (aXc6 (by first | (rw [wu_ne (by omega)]; done) | (rw [wu_get, if_neg (by omega)]; done)) (fun i _ _ => (by first | (rw [wu_ne (by omega)]; done) | (rw [wu_get, if_neg (by omega)]; done)))) (aXc7 (fun i _ _ => (by first | (rw [wu_ne (by omega)]; done) | (rw [wu_get, if_neg (by omega)]; done)))) (aXc8 (fun k _ _ => ⟨(by first | (rw [wu_ne (by omega)]; done) | (rw [wu_get, if_neg (by omega)]; done)), fun _ => (by first | (rw [wu_ne (by omega)]; done) | (rw [wu_get, if_neg (by omega)]; done))⟩)) (aXc9 (fun k _ _ => ⟨(by first | (rw [wu_ne (by omega)]; done) | (rw [wu_get, if_neg (by omega)]; done)), fun _ => (by first | (rw [wu_ne (by omega)]; done) | (rw [wu_get, if_neg (by omega)]; done))⟩)) (aXc10 (fun k _ _ => ⟨(by first | (rw [wu_ne (by omega)]; done) | (rw [wu_get, if_neg (by omega)]; done)), fun _ => ⟨(by first | (rw [wu_ne (by omega)]; done) | (rw [wu_get, if_neg (by omega)]; done)), fun j _ _ => (by first | (rw [wu_ne (by omega)]; done) | (rw [wu_get, if_neg (by omega)]; done))⟩⟩)) (fun _ => rfl)
  funext j
  simp only [aX, ss, wu_get, true_and]
  by_cases e : j = r
  · subst e; simp [h]
  · rw [if_neg e]
    split
    · rw [if_neg (by omega)]
    · rfl
theorem aX_rp {w : Mem} {r i v : Int} (h : 0 ≤ r ∧ r < 6) (hi : 0 ≤ i ∧ i < 60) : aX (wu w (51 + 2 * r) i v) = ss (aX w) 1 (60 * r + i) v := by
  refine sta_ext (aXc0 (fun r _ _ => (by first | (rw [wu_ne (by omega)]; done) | (rw [wu_get, if_neg (by omega)]; done)))) ?_ (aXc2 (fun r _ _ => (by first | (rw [wu_ne (by omega)]; done) | (rw [wu_get, if_neg (by omega)]; done)))) (aXc3 (fun r i _ _ _ _ => (by first | (rw [wu_ne (by omega)]; done) | (rw [wu_get, if_neg (by omega)]; done)))) (aXc4 ⟨(by first | (rw [wu_ne (by omega)]; done) | (rw [wu_get, if_neg (by omega)]; done)), (by first | (rw [wu_ne (by omega)]; done) | (rw [wu_get, if_neg (by omega)]; done)), (by first | (rw [wu_ne (by omega)]; done) | (rw [wu_get, if_neg (by omega)]; done)), (by first | (rw [wu_ne (by omega)]; done) | (rw [wu_get, if_neg (by omega)]; done)), (by first | (rw [wu_ne (by omega)]; done) | (rw [wu_get, if_neg (by omega)]; done)), (by first | (rw [wu_ne (by omega)]; done) | (rw [wu_get, if_neg (by omega)]; done)), (by first | (rw [wu_ne (by omega)]; done) | (rw [wu_get, if_neg (by omega)]; done))⟩) (aXc5 (by first | (rw [wu_ne (by omega)]; done) | (rw [wu_get, if_neg (by omega)]; done)) (fun i _ _ => (by first | (rw [wu_ne (by omega)]; done) | (rw [wu_get, if_neg (by omega)]; done)))) (aXc6 (by first | (rw [wu_ne (by omega)]; done) | (rw [wu_get, if_neg (by omega)]; done)) (fun i _ _ => (by first | (rw [wu_ne (by omega)]; done) | (rw [wu_get, if_neg (by omega)]; done)))) (aXc7 (fun i _ _ => (by first | (rw [wu_ne (by omega)]; done) | (rw [wu_get, if_neg (by omega)]; done)))) (aXc8 (fun k _ _ => ⟨(by first | (rw [wu_ne (by omega)]; done) | (rw [wu_get, if_neg (by omega)]; done)), fun _ => (by first | (rw [wu_ne (by omega)]; done) | (rw [wu_get, if_neg (by omega)]; done))⟩)) (aXc9 (fun k _ _ => ⟨(by first | (rw [wu_ne (by omega)]; done) | (rw [wu_get, if_neg (by omega)]; done)), fun _ => (by first | (rw [wu_ne (by omega)]; done) | (rw [wu_get, if_neg (by omega)]; done))⟩)) (aXc10 (fun k _ _ => ⟨(by first | (rw [wu_ne (by omega)]; done) | (rw [wu_get, if_neg (by omega)]; done)), fun _ => ⟨(by first | (rw [wu_ne (by omega)]; done) | (rw [wu_get, if_neg (by omega)]; done)), fun j _ _ => (by first | (rw [wu_ne (by omega)]; done) | (rw [wu_get, if_neg (by omega)]; done))⟩⟩)) (fun _ => rfl)
  funext j
  simp only [aX, ss, wu_get, true_and]
  by_cases e : j = 60 * r + i
  · rw [if_pos (by omega), if_pos (by omega), if_pos e]
  · rw [if_neg e]
    split
    · rw [if_neg (by omega)]
    · rfl
theorem aX_tp {w : Mem} {r i v : Int} (h : 0 ≤ r ∧ r < 4) (hi : 0 ≤ i ∧ i < 60) : aX (wu w (63 + 2 * r) i v) = ss (aX w) 3 (60 * r + i) v := by
  refine sta_ext (aXc0 (fun r _ _ => (by first | (rw [wu_ne (by omega)]; done) | (rw [wu_get, if_neg (by omega)]; done)))) (aXc1 (fun r i _ _ _ _ => (by first | (rw [wu_ne (by omega)]; done) | (rw [wu_get, if_neg (by omega)]; done)))) (aXc2 (fun r _ _ => (by first | (rw [wu_ne (by omega)]; done) | (rw [wu_get, if_neg (by omega)]; done)))) ?_ (aXc4 ⟨(by first | (rw [wu_ne (by omega)]; done) | (rw [wu_get, if_neg (by omega)]; done)), (by first | (rw [wu_ne (by omega)]; done) | (rw [wu_get, if_neg (by omega)]; done)), (by first | (rw [wu_ne (by omega)]; done) | (rw [wu_get, if_neg (by omega)]; done)), (by first | (rw [wu_ne (by omega)]; done) | (rw [wu_get, if_neg (by omega)]; done)), (by first | (rw [wu_ne (by omega)]; done) | (rw [wu_get, if_neg (by omega)]; done)), (by first | (rw [wu_ne (by omega)]; done) | (rw [wu_get, if_neg (by omega)]; done)), (by first | (rw [wu_ne (by omega)]; done) | (rw [wu_get, if_neg (by omega)]; done))⟩) (aXc5 (by first | (rw [wu_ne (by omega)]; done) | (rw [wu_get, if_neg (by omega)]; done)) (fun i _ _ => (by first | (rw [wu_ne (by omega)]; done) | (rw [wu_get, if_neg (by omega)]; done)))) (aXc6 (by first | (rw [wu_ne (by omega)]; done) | (rw [wu_get, if_neg (by omega)]; done)) (fun i _ _ => (by first | (rw [wu_ne (by omega)]; done) | (rw [wu_get, if_neg (by omega)]; done)))) (aXc7 (fun i _ _ => (by first | (rw [wu_ne (by omega)]; done) | (rw [wu_get, if_neg (by omega)]; done)))) (aXc8 (fun k _ _ => ⟨(by first | (rw [wu_ne (by omega)]; done) | (rw [wu_get, if_neg (by omega)]; done)), fun _ => (by first | (rw [wu_ne (by omega)]; done) | (rw [wu_get, if_neg (by omega)]; done))⟩)) (aXc9 (fun k _ _ => ⟨(by first | (rw [wu_ne (by omega)]; done) | (rw [wu_get, if_neg (by omega)]; done)), fun _ => (by first | (rw [wu_ne (by omega)]; done) | (rw [wu_get, if_neg (by omega)]; done))⟩)) (aXc10 (fun k _ _ => ⟨(by first | (rw [wu_ne (by omega)]; done) | (rw [wu_get, if_neg (by omega)]; done)), fun _ => ⟨(by first | (rw [wu_ne (by omega)]; done) | (rw [wu_get, if_neg (by omega)]; done)), fun j _ _ => (by first | (rw [wu_ne (by omega)]; done) | (rw [wu_get, if_neg (by omega)]; done))⟩⟩)) (fun _ => rfl)
  funext j
  simp only [aX, ss, wu_get, true_and]
  by_cases e : j = 60 * r + i
  · rw [if_pos (by omega), if_pos (by omega), if_pos e]
  · rw [if_neg e]
    split
    · rw [if_neg (by omega)]
    · rfl
theorem aX_rc {w : Mem} {r : Int} {F : Int → Int} (h : 0 ≤ r ∧ r < 6) : aX (wc w (51 + 2 * r) F) = sr (aX w) 1 r F := by
  refine sta_ext (aXc0 (fun r _ _ => (by first | (rw [wc_ne (by omega)]; done) | (rw [wu_get, if_neg (by omega)]; done)))) ?_ (aXc2 (fun r _ _ => (by first | (rw [wc_ne (by omega)]; done) | (rw [wu_get, if_neg (by omega)]; done)))) (aXc3 (fun r i _ _ _ _ => (by first | (rw [wc_ne (by omega)]; done) | (rw [wu_get, if_neg (by omega)]; done)))) (aXc4 ⟨(by first | (rw [wc_ne (by omega)]; done) | (rw [wu_get, if_neg (by omega)]; done)), (by first | (rw [wc_ne (by omega)]; done) | (rw [wu_get, if_neg (by omega)]; done)), (by first | (rw [wc_ne (by omega)]; done) | (rw [wu_get, if_neg (by omega)]; done)), (by first | (rw [wc_ne (by omega)]; done) | (rw [wu_get, if_neg (by omega)]; done)), (by first | (rw [wc_ne (by omega)]; done) | (rw [wu_get, if_neg (by omega)]; done)), (by first | (rw [wc_ne (by omega)]; done) | (rw [wu_get, if_neg (by omega)]; done)), (by first | (rw [wc_ne (by omega)]; done) | (rw [wu_get, if_neg (by omega)]; done))⟩) (aXc5 (by first | (rw [wc_ne (by omega)]; done) | (rw [wu_get, if_neg (by omega)]; done)) (fun i _ _ => (by first | (rw [wc_ne (by omega)]; done) | (rw [wu_get, if_neg (by omega)]; done)))) (aXc6 (by first | (rw [wc_ne (by omega)]; done) | (rw [wu_get, if_neg (by omega)]; done)) (fun i _ _ => (by first | (rw [wc_ne (by omega)]; done) | (rw [wu_get, if_neg (by omega)]; done)))) (aXc7 (fun i _ _ => (by first | (rw [wc_ne (by omega)]; done) | (rw [wu_get, if_neg (by omega)]; done)))) (aXc8 (fun k _ _ => ⟨(by first | (rw [wc_ne (by omega)]; done) | (rw [wu_get, if_neg (by omega)]; done)), fun _ => (by first | (rw [wc_ne (by omega)]; done) | (rw [wu_get, if_neg (by omega)]; done))⟩)) (aXc9 (fun k _ _ => ⟨(by first | (rw [wc_ne (by omega)]; done) | (rw [wu_get, if_neg (by omega)]; done)), fun _ => (by first | (rw [wc_ne (by omega)]; done) | (rw [wu_get, if_neg (by omega)]; done))⟩)) (aXc10 (fun k _ _ => ⟨(by first | (rw [wc_ne (by omega)]; done) | (rw [wu_get, if_neg (by omega)]; done)), fun _ => ⟨(by first | (rw [wc_ne (by omega)]; done) | (rw [wu_get, if_neg (by omega)]; done)), fun j _ _ => (by first | (rw [wc_ne (by omega)]; done) | (rw [wu_get, if_neg (by omega)]; done))⟩⟩)) (fun _ => rfl)
  funext j
  simp only [aX, sr, wc_get, true_and]
  by_cases e : 60 * r ≤ j ∧ j < 60 * r + 60
  · rw [if_pos (by omega), if_pos (by omega), if_pos e, show j % 60 = j - 60 * r by omega]
  · rw [if_neg e]
    split
    · rw [if_neg (by omega)]
    · rfl
theorem aX_tc {w : Mem} {r : Int} {F : Int → Int} (h : 0 ≤ r ∧ r < 4) : aX (wc w (63 + 2 * r) F) = sr (aX w) 3 r F := by
  refine sta_ext (aXc0 (fun r _ _ => (by first | (rw [wc_ne (by omega)]; done) | (rw [wu_get, if_neg (by omega)]; done)))) (aXc1 (fun r i _ _ _ _ => (by first | (rw [wc_ne (by omega)]; done) | (rw [wu_get, if_neg (by omega)]; done)))) (aXc2 (fun r _ _ => (by first | (rw [wc_ne (by omega)]; done) | (rw [wu_get, if_neg (by omega)]; done)))) ?_ (aXc4 ⟨(by first | (rw [wc_ne (by omega)]; done) | (rw [wu_get, if_neg (by omega)]; done)), (by first | (rw [wc_ne (by omega)]; done) | (rw [wu_get, if_neg (by omega)]; done)), (by first | (rw [wc_ne (by omega)]; done) | (rw [wu_get, if_neg (by omega)]; done)), (by first | (rw [wc_ne (by omega)]; done) | (rw [wu_get, if_neg (by omega)]; done)), (by first | (rw [wc_ne (by omega)]; done) | (rw [wu_get, if_neg (by omega)]; done)), (by first | (rw [wc_ne (by omega)]; done) | (rw [wu_get, if_neg (by omega)]; done)), (by first | (rw [wc_ne (by omega)]; done) | (rw [wu_get, if_neg (by omega)]; done))⟩) (aXc5 (by first | (rw [wc_ne (by omega)]; done) | (rw [wu_get, if_neg (by omega)]; done)) (fun i _ _ => (by first | (rw [wc_ne (by omega)]; done) | (rw [wu_get, if_neg (by omega)]; done)))) (aXc6 (by first | (rw [wc_ne (by omega)]; done) | (rw [wu_get, if_neg (by omega)]; done)) (fun i _ _ => (by first | (rw [wc_ne (by omega)]; done) | (rw [wu_get, if_neg (by omega)]; done)))) (aXc7 (fun i _ _ => (by first | (rw [wc_ne (by omega)]; done) | (rw [wu_get, if_neg (by omega)]; done)))) (aXc8 (fun k _ _ => ⟨(by first | (rw [wc_ne (by omega)]; done) | (rw [wu_get, if_neg (by omega)]; done)), fun _ => (by first | (rw [wc_ne (by omega)]; done) | (rw [wu_get, if_neg (by omega)]; done))⟩)) (aXc9 (fun k _ _ => ⟨(by first | (rw [wc_ne (by omega)]; done) | (rw [wu_get, if_neg (by omega)]; done)), fun _ => (by first | (rw [wc_ne (by omega)]; done) | (rw [wu_get, if_neg (by omega)]; done))⟩)) (aXc10 (fun k _ _ => ⟨(by first | (rw [wc_ne (by omega)]; done) | (rw [wu_get, if_neg (by omega)]; done)), fun _ => ⟨(by first | (rw [wc_ne (by omega)]; done) | (rw [wu_get, if_neg (by omega)]; done)), fun j _ _ => (by first | (rw [wc_ne (by omega)]; done) | (rw [wu_get, if_neg (by omega)]; done))⟩⟩)) (fun _ => rfl)
  funext j
  simp only [aX, sr, wc_get, true_and]
  by_cases e : 60 * r ≤ j ∧ j < 60 * r + 60
  · rw [if_pos (by omega), if_pos (by omega), if_pos e, show j % 60 = j - 60 * r by omega]
  · rw [if_neg e]
    split
    · rw [if_neg (by omega)]
    · rfl
theorem aM_u0 {w : Mem} {v : Int} : aM (wu w 76 0 v) = ss (aM w) 4 6 v := by
  funext c j
  unfold aM ss
  match c with
  | 4 =>
    simp only [wu_get, true_and]
    by_cases e : j = 6
    · subst e; rfl
    · simp [e]
  | 0 | 1 | 2 | 3 | 5 | 6 | 7 | 8 | 9 | 10 => simp [wu_get]
  | c + 11 => simp
theorem aM_u2 {w : Mem} {v : Int} : aM (wu w 76 2 v) = ss (aM w) 4 3 v := by
  funext c j
  unfold aM ss
  match c with
  | 4 =>
    simp only [wu_get, true_and]
    by_cases e : j = 3
    · subst e; rfl
    · simp [e]
  | 0 | 1 | 2 | 3 | 5 | 6 | 7 | 8 | 9 | 10 => simp [wu_get]
  | c + 11 => simp
theorem aM_u3 {w : Mem} {v : Int} : aM (wu w 76 3 v) = ss (aM w) 4 4 v := by
  funext c j
  unfold aM ss
  match c with
  | 4 =>
    simp only [wu_get, true_and]
    by_cases e : j = 4
    · subst e; rfl
    · simp [e]
  | 0 | 1 | 2 | 3 | 5 | 6 | 7 | 8 | 9 | 10 => simp [wu_get]
  | c + 11 => simp
theorem aM_u4 {w : Mem} {v : Int} : aM (wu w 76 4 v) = ss (aM w) 4 5 v := by
  funext c j
  unfold aM ss
  match c with
  | 4 =>
    simp only [wu_get, true_and]
    by_cases e : j = 5
    · subst e; rfl
    · simp [e]
  | 0 | 1 | 2 | 3 | 5 | 6 | 7 | 8 | 9 | 10 => simp [wu_get]
  | c + 11 => simp
theorem aM_rs {w : Mem} {r v : Int} (h : 0 ≤ r ∧ r < 6) : aM (wu w 78 r v) = ss (aM w) 0 r v := by
  funext c j
  unfold aM ss
  match c with
  | 0 =>
    simp only [wu_get, true_and]
    by_cases e : j = r
    · subst e; rw [if_pos (by omega), if_pos rfl, if_pos rfl]
    · rw [if_neg e, if_neg e]
  | 1 | 2 | 3 | 4 | 5 | 6 | 7 | 8 | 9 | 10 => simp [wu_get, wc_get]
  | c + 11 => simp
theorem aM_rp {w : Mem} {r v : Int} (h : 0 ≤ r ∧ r < 360) : aM (wu w 79 r v) = ss (aM w) 1 r v := by
  funext c j
  unfold aM ss
  match c with
  | 1 =>
    simp only [wu_get, true_and]
    by_cases e : j = r
    · subst e; rw [if_pos (by omega), if_pos rfl, if_pos rfl]
    · rw [if_neg e, if_neg e]
  | 0 | 2 | 3 | 4 | 5 | 6 | 7 | 8 | 9 | 10 => simp [wu_get, wc_get]
  | c + 11 => simp
theorem aM_ts {w : Mem} {r v : Int} (h : 0 ≤ r ∧ r < 4) : aM (wu w 81 r v) = ss (aM w) 2 r v := by
  funext c j
  unfold aM ss
  match c with
  | 2 =>
    simp only [wu_get, true_and]
    by_cases e : j = r
    · subst e; rw [if_pos (by omega), if_pos rfl, if_pos rfl]
    · rw [if_neg e, if_neg e]
  | 0 | 1 | 3 | 4 | 5 | 6 | 7 | 8 | 9 | 10 => simp [wu_get, wc_get]
  | c + 11 => simp
theorem aM_tp {w : Mem} {r v : Int} (h : 0 ≤ r ∧ r < 240) : aM (wu w 82 r v) = ss (aM w) 3 r v := by
  funext c j
  unfold aM ss
  match c with
  | 3 =>
    simp only [wu_get, true_and]
    by_cases e : j = r
    · subst e; rw [if_pos (by omega), if_pos rfl, if_pos rfl]
    · rw [if_neg e, if_neg e]
  | 0 | 1 | 2 | 4 | 5 | 6 | 7 | 8 | 9 | 10 => simp [wu_get, wc_get]
  | c + 11 => simp
theorem aM_u77 {w : Mem} {r v : Int} (h : 1 ≤ r ∧ r ≤ 5) : aM (wu w 77 r v) = ss (aM w) 7 r v := by
  funext c j
  unfold aM ss
  match c with
  | 7 =>
    simp only [wu_get, true_and]
    by_cases e : j = r
    · subst e; rw [if_pos (by omega), if_pos rfl, if_pos rfl]
    · rw [if_neg e, if_neg e]
  | 0 | 1 | 2 | 3 | 4 | 5 | 6 | 8 | 9 | 10 => simp [wu_get, wc_get]
  | c + 11 => simp
