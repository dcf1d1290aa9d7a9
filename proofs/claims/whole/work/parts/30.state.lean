/-! part 30: what of the memory later calls show: the same for the class and for the reference -/
abbrev Sta : Type := Nat → Int → Int
def ss (s : Sta) (c : Nat) (i v : Int) : Sta := fun c' i' => if c' = c ∧ i' = i then v else s c' i'
/-- a row of sixty places anew -/
def sr (s : Sta) (c : Nat) (r : Int) (F : Int → Int) : Sta := fun c' i' => if c' = c ∧ 60 * r ≤ i' ∧ i' < 60 * r + 60 then F (i' - 60 * r) else s c' i'
/-- a whole part anew -/
def sc (s : Sta) (c : Nat) (F : Int → Int) : Sta := fun c' => if c' = c then F else s c'
def aX (w : Mem) : Sta := fun c i => match c with
  | 0 => if 0 ≤ i ∧ i < 6 then w (50 + 2 * i) 1 else 0
  | 1 => if 0 ≤ i ∧ i < 360 then w (51 + 2 * (i / 60)) (i % 60) else 0
  | 2 => if 0 ≤ i ∧ i < 4 then w (62 + 2 * i) 1 else 0
  | 3 => if 0 ≤ i ∧ i < 240 then w (63 + 2 * (i / 60)) (i % 60) else 0
  | 4 => if i = 0 then w 3 2 else if i = 1 then w 3 1 else if i = 2 then w 0 7 else if i = 3 then w 0 11 else if i = 4 then w 0 12 else if i = 5 then w 0 13 else if i = 6 then w 0 14 else 0
  | 5 => if 0 ≤ i ∧ i < w 3 1 then w 4 i else 0
  | 6 => if 0 ≤ i ∧ i < w 0 7 then w 14 i else 0
  | 7 => if 1 ≤ i ∧ i ≤ 5 then w 49 i else 0
  | 8 => if 0 ≤ i ∧ i < 3 then (if w 6 i = 1 then w (70 + 2 * i) 1 else -1) else 0
  | 9 => if 0 ≤ i ∧ i < 3 ∧ w 6 i = 1 then w (70 + 2 * i) 2 else 0
  | 10 => if 0 ≤ i ∧ i < 42 ∧ w 6 (i / 14) = 1 ∧ i % 14 < w (70 + 2 * (i / 14)) 1 then w (71 + 2 * (i / 14)) (i % 14) else 0
  | _ => 0
def aM (w : Mem) : Sta := fun c i => match c with
  | 0 => if 0 ≤ i ∧ i < 6 then w 78 i else 0
  | 1 => if 0 ≤ i ∧ i < 360 then w 79 i else 0
  | 2 => if 0 ≤ i ∧ i < 4 then w 81 i else 0
  | 3 => if 0 ≤ i ∧ i < 240 then w 82 i else 0
  | 4 => if i = 0 then w 76 11 else if i = 1 then w 76 14 else if i = 2 then w 76 12 else if i = 3 then w 76 2 else if i = 4 then w 76 3 else if i = 5 then w 76 4 else if i = 6 then w 76 0 else 0
  | 5 => if 0 ≤ i ∧ i < w 76 14 then w 85 i else 0
  | 6 => if 0 ≤ i ∧ i < w 76 12 then w 84 i else 0
  | 7 => if 1 ≤ i ∧ i ≤ 5 then w 77 i else 0
  | 8 => if 0 ≤ i ∧ i < 3 then w 88 i else 0
  | 9 => if 0 ≤ i ∧ i < 3 ∧ 0 ≤ w 88 i then w 89 i else 0
  | 10 => if 0 ≤ i ∧ i < 42 ∧ i % 14 < w 88 (i / 14) then w 90 i else 0
  | _ => 0
/-- the state is one that calls can come to -/
def OK (s : Sta) : Prop :=
  (∀ r, 0 ≤ r → r < 6 → -1 ≤ s 0 r ∧ s 0 r ≤ 60) ∧ (∀ i, 0 ≤ i → i < 360 → R3 (s 1 i)) ∧ (∀ t, 0 ≤ t → t < 4 → -1 ≤ s 2 t ∧ s 2 t ≤ 60) ∧ (∀ i, 0 ≤ i → i < 240 → -128 ≤ s 3 i ∧ s 3 i ≤ 127) ∧
  (s 4 0 = 0 ∨ s 4 0 = 1 ∨ s 4 0 = 2) ∧ (0 ≤ s 4 1 ∧ s 4 1 ≤ 13) ∧ (0 ≤ s 4 2 ∧ s 4 2 ≤ 2) ∧ (∀ i, 0 ≤ i → i < s 4 1 → 1 ≤ s 5 i ∧ s 5 i ≤ 60) ∧ (∀ p, 0 ≤ p → p < s 4 2 → 0 ≤ s 6 p ∧ s 6 p ≤ 5) ∧
  (s 4 1 = 13 → s 5 12 = 1) ∧ (∀ k, 0 ≤ k → k < 3 → -1 ≤ s 8 k ∧ s 8 k ≤ 13 ∧ (0 ≤ s 8 k → (s 9 k = 0 ∨ s 9 k = 1 ∨ s 9 k = 2)) ∧ (∀ i, 0 ≤ i → i < s 8 k → 1 ≤ s 10 (14 * k + i) ∧ s 10 (14 * k + i) ≤ 60) ∧ (s 8 k = 13 → s 10 (14 * k + 12) = 1))
theorem wu_get {w : Mem} {a i v b j : Int} : wu w a i v b j = if b = a ∧ j = i then v else w b j := by
  unfold wu up
  by_cases e : b = a
  · subst e
    rw [if_pos rfl]
    by_cases h : j = i
    · rw [if_pos h, if_pos ⟨rfl, h⟩]
    · rw [if_neg h, if_neg (fun z => h z.2)]
  · rw [if_neg e, if_neg (fun z => e z.1)]
theorem wc_get {w : Mem} {a b j : Int} {F : Int → Int} : wc w a F b j = if b = a then F j else w b j := by
  unfold wc
  split <;> rfl
theorem sta_ext {s s' : Sta} (h0 : s 0 = s' 0) (h1 : s 1 = s' 1) (h2 : s 2 = s' 2) (h3 : s 3 = s' 3) (h4 : s 4 = s' 4) (h5 : s 5 = s' 5) (h6 : s 6 = s' 6) (h7 : s 7 = s' 7) (h8 : s 8 = s' 8) (h9 : s 9 = s' 9) (h10 : s 10 = s' 10) (h : ∀ c, s (c + 11) = s' (c + 11)) : s = s' := by
  funext c
  match c with
  | 0 => exact h0
  | 1 => exact h1
  | 2 => exact h2
  | 3 => exact h3
  | 4 => exact h4
  | 5 => exact h5
  | 6 => exact h6
  | 7 => exact h7
  | 8 => exact h8
  | 9 => exact h9
  | 10 => exact h10
  | c + 11 => exact h c
/-- cells that nothing shows -/
theorem aX_scr {w w' : Mem} (h : ∀ b, (0 ≤ b ∧ b < 15) ∨ (49 ≤ b ∧ b < 76) → w' b = w b) : aX w' = aX w := by
  funext c i
  unfold aX
  match c with
  | 0 => show (if _ then _ else _) = (if _ then _ else _); split; rw [h _ (by omega)]; rfl
  | 1 => show (if _ then _ else _) = (if _ then _ else _); split; rw [h _ (by omega)]; rfl
  | 2 => show (if _ then _ else _) = (if _ then _ else _); split; rw [h _ (by omega)]; rfl
  | 3 => show (if _ then _ else _) = (if _ then _ else _); split; rw [h _ (by omega)]; rfl
  | 4 => simp only [h 3 (by omega), h 0 (by omega)]
  | 5 => simp only [h 3 (by omega), h 4 (by omega)]
  | 6 => simp only [h 0 (by omega), h 14 (by omega)]
  | 7 => simp only [h 49 (by omega)]
  | 8 => show (if _ then _ else _) = (if _ then _ else _); split; rw [h 6 (by omega), h _ (by omega)]; rfl
  | 9 =>
    rw [h 6 (by omega)]
    show (if _ then _ else _) = (if _ then _ else _); split; rw [h _ (by omega)]; rfl
  | 10 =>
    show (if _ then _ else _) = (if _ then _ else _)
    rw [h 6 (by omega)]
    by_cases e : 0 ≤ i ∧ i < 42
    · rw [h (70 + 2 * (i / 14)) (by omega), h (71 + 2 * (i / 14)) (by omega)]
    · rw [if_neg (fun z => e ⟨z.1, z.2.1⟩), if_neg (fun z => e ⟨z.1, z.2.1⟩)]
  | c + 11 => rfl
theorem aM_scr {w w' : Mem} (h : ∀ b, (77 ≤ b ∧ b < 80) ∨ (81 ≤ b ∧ b < 83) ∨ (84 ≤ b ∧ b < 86) ∨ (88 ≤ b ∧ b < 91) → w' b = w b) (h2 : ∀ j, j = 0 ∨ j = 2 ∨ j = 3 ∨ j = 4 ∨ j = 11 ∨ j = 12 ∨ j = 14 → w' 76 j = w 76 j) : aM w' = aM w := by
  funext c i
  unfold aM
  simp only [h 77 (by omega), h 78 (by omega), h 79 (by omega), h 81 (by omega), h 82 (by omega), h 84 (by omega), h 85 (by omega), h 88 (by omega), h 89 (by omega), h 90 (by omega), h2 0 (by omega), h2 2 (by omega), h2 3 (by omega), h2 4 (by omega), h2 11 (by omega), h2 12 (by omega), h2 14 (by omega)]
