/-! part 32: what each call does, over the shown state -/
/-- the gaps behind n's saying -/
def gbP (m n v : Nat) : Prop := ∀ t : Nat, t * n ≤ v → m.testBit (v - t * n) = true
def gbStep (had n : Nat) : Nat → Nat
  | 0 => had
  | j + 1 => gbStep had n j ||| ((gbStep had n j <<< n) &&& 268435455)
def gb (m n : Nat) : Nat := 268435455 &&& (268435455 ^^^ gbStep (268435455 &&& (268435455 ^^^ m)) n (27 / n))
def slStep (V : Nat → Int) (m : Nat) : Nat → Int × Int
  | 0 => (14, 0)
  | k + 1 => if 2 ≤ k ∧ m.testBit k = true then (min (slStep V m k).1 (1 + V (gb m k) / 2), if V (gb m k) % 2 = 1 then (slStep V m k).2 else 1) else slStep V m k
def slF : Nat → Nat → Int
  | 0, _ => 0
  | f + 1, m => if m ≤ 2 then (if m = 2 then 2 else 0) else 2 * (slStep (slF f) m 28).1 + (slStep (slF f) m 28).2
def nzc (k : Int → Int) : Nat → Int
  | 0 => 0
  | n + 1 => nzc k n + (if k n = 0 then 0 else 1)
def SolOK (so k v : Int → Int) : Prop := so 3 = nzc k 1024 ∧ ∀ i : Int, 0 ≤ i → i < 1024 → k i = 0 ∨ ∃ m : Nat, k i = (m : Int) ∧ 2 < m ∧ m < 2 ^ 28 ∧ bs m 28 ≤ 14 ∧ v i = slF 15 m
def GI0 (w : Mem) (a : Int) : Prop := Mk (w a 3) (rch (w a 2) (w (a + 1)) (w a 1).toNat)
def XJ (w : Mem) : Prop := (∀ k, 0 ≤ k → k < 3 → w 6 k = 0 ∨ w 6 k = 1) ∧ GI0 w 3 ∧ (∀ k, 0 ≤ k → k < 3 → w 6 k = 1 → 0 ≤ w (70 + 2 * k) 1 ∧ GI0 w (70 + 2 * k)) ∧ SolOK (w 46) (w 47) (w 48)
def PX (w : Mem) (p : Int × Sta) : Int → Mem → Prop := fun z w' => z = p.1 ∧ aX w' = p.2 ∧ XJ w' ∧ ∀ b, 76 ≤ b → w' b = w b
def PM (w : Mem) (p : Int × Sta) : Int → Mem → Prop := fun z w' => z = p.1 ∧ aM w' = p.2 ∧ ∀ b, b < 76 → w' b = w b
theorem XJ.ext {w w' : Mem} (h : XJ w) (e : ∀ b, b = 3 ∨ b = 4 ∨ b = 6 ∨ (46 ≤ b ∧ b ≤ 48) ∨ (70 ≤ b ∧ b < 76) → w' b = w b) : XJ w' := by
  refine ⟨fun k k0 k1 => by rw [e 6 (by omega)]; exact h.1 k k0 k1, ?_, fun k k0 k1 => ?_, ?_⟩
  · unfold GI0
    rw [show (3 : Int) + 1 = 4 by omega, e 3 (by omega), e 4 (by omega)]
    exact h.2.1
  · rw [e 6 (by omega)]
    unfold GI0
    rw [e (70 + 2 * k) (by omega), e (70 + 2 * k + 1) (by omega)]
    exact h.2.2.1 k k0 k1
  · rw [e 46 (by omega), e 47 (by omega), e 48 (by omega)]
    exact h.2.2.2
def fdS (s : Sta) (f : Int) : Int × Sta := (-3, ss (ss s 4 6 f) 7 f (s 7 f + 1))
def sp_row (s : Sta) (r n : Int) : Int × Sta := if ¬ (0 ≤ r ∧ r < 6) ∨ 60 < n then (-1, s) else if n < 0 then fdS s 5 else (n, ss (sr s 1 r (fun _ => 0)) 0 r n)
def sp_lay (s : Sta) (r i v : Int) : Int × Sta := if ¬ (0 ≤ r ∧ r < 6) then (-1, s) else if s 0 r < 0 then fdS s 1 else if ¬ (0 ≤ i ∧ i < s 0 r) then fdS s 2 else (1, ss (ss s 4 3 (s 1 (60 * r + i))) 1 (60 * r + i) v)
def sp_at (s : Sta) (r i : Int) : Int × Sta := if ¬ (0 ≤ r ∧ r < 6) then (-1, s) else if s 0 r < 0 then fdS s 1 else if ¬ (0 ≤ i ∧ i < s 0 r) then fdS s 2 else (1, ss s 4 3 (s 1 (60 * r + i)))
def sp_tear (s : Sta) (r : Int) : Int × Sta := if ¬ (0 ≤ r ∧ r < 6) then (-1, s) else if s 0 r < 0 then fdS s 1 else (1, ss s 0 r (-1))
def cpyS (F : Int → Int) (a b n : Int) : Int → Int := fun j => if b ≤ j ∧ j < b + n then F (a + (j - b)) else F j
def sp_copy (s : Sta) (r i to j n : Int) : Int × Sta := if ¬ (0 ≤ r ∧ r < 6 ∧ 0 ≤ to ∧ to < 6) then (-1, s) else if n < 0 then fdS s 5 else if s 0 r < 0 ∨ s 0 to < 0 then fdS s 1 else if ¬ (0 ≤ i ∧ 0 ≤ j ∧ i + n ≤ s 0 r ∧ j + n ≤ s 0 to) then fdS s 2 else (1, sc s 1 (cpyS (s 1) (60 * r + i) (60 * to + j) n))
def smF (F : Int → Int) (a : Int) : Nat → Int
  | 0 => 0
  | k + 1 => smF F a k + F (a + k)
def sp_mean (s : Sta) (r : Int) : Int × Sta := if ¬ (0 ≤ r ∧ r < 6) then (-1, s) else if s 0 r < 0 then fdS s 1 else if s 0 r = 0 then fdS s 4 else (1, ss s 4 3 ((smF (s 1) (60 * r) (s 0 r).toNat).tdiv (s 0 r)))
def sp_text (s : Sta) (t n : Int) : Int × Sta := if ¬ (0 ≤ t ∧ t < 4) ∨ 60 < n then (-1, s) else if n < 0 then fdS s 5 else (n, ss (sr s 3 t (fun _ => 32)) 2 t n)
def byI (v : Int) : Int := (Int32.ofInt v).toInt8.toInt32.toInt
def sp_put (s : Sta) (t i v : Int) : Int × Sta := if ¬ (0 ≤ t ∧ t < 4) then (-1, s) else if s 2 t < 0 then fdS s 1 else if ¬ (0 ≤ i ∧ i < s 2 t) then fdS s 2 else (s 3 (60 * t + i) + 1000, ss s 3 (60 * t + i) (byI v))
def wfd (w : Mem) (f : Int) : Mem := wu (wu w 0 14 f) 49 f (w 49 f + 1)
theorem aX_at0 {w : Mem} {r : Int} (h : 0 ≤ r ∧ r < 6) : aX w 0 r = w (50 + 2 * r) 1 := if_pos h
theorem aX_at1 {w : Mem} {r i : Int} (h : 0 ≤ r ∧ r < 6) (hi : 0 ≤ i ∧ i < 60) : aX w 1 (60 * r + i) = w (51 + 2 * r) i := by
  show (if _ then _ else _) = _
  rw [if_pos (by omega), show (60 * r + i) / 60 = r by omega, show (60 * r + i) % 60 = i by omega]
theorem aX_at2 {w : Mem} {r : Int} (h : 0 ≤ r ∧ r < 4) : aX w 2 r = w (62 + 2 * r) 1 := if_pos h
theorem aX_at3 {w : Mem} {r i : Int} (h : 0 ≤ r ∧ r < 4) (hi : 0 ≤ i ∧ i < 60) : aX w 3 (60 * r + i) = w (63 + 2 * r) i := by
  show (if _ then _ else _) = _
  rw [if_pos (by omega), show (60 * r + i) / 60 = r by omega, show (60 * r + i) % 60 = i by omega]
theorem aX_at7 {w : Mem} {f : Int} (h : 1 ≤ f ∧ f ≤ 5) : aX w 7 f = w 49 f := if_pos h
theorem aX_fd {w : Mem} {f : Int} (h : 1 ≤ f ∧ f ≤ 5) : aX (wfd w f) = (fdS (aX w) f).2 := by
  unfold wfd fdS
  rw [aX_u49 h, aX_u14, aX_at7 h]
theorem wfd_ne {w : Mem} {f b : Int} (h0 : b ≠ 0) (h1 : b ≠ 49) : wfd w f b = w b := by
  unfold wfd
  rw [wu_ne h1, wu_ne h0]
theorem PX_fd {w : Mem} {f : Int} (h : 1 ≤ f ∧ f ≤ 5) (hj : XJ w) : PX w (fdS (aX w) f) (-3) (wfd w f) :=
  ⟨rfl, aX_fd h, hj.ext (fun b hb => wfd_ne (by omega) (by omega)), fun b hb => wfd_ne (by omega) (by omega)⟩
theorem PX_id {w : Mem} {z : Int} (hj : XJ w) : PX w (z, aX w) z w := ⟨rfl, rfl, hj, fun _ _ => rfl⟩
theorem OK.r0 {w : Mem} (h : OK (aX w)) {r : Int} (hr : 0 ≤ r ∧ r < 6) : -1 ≤ w (50 + 2 * r) 1 ∧ w (50 + 2 * r) 1 ≤ 60 := by
  have := h.1 r hr.1 hr.2
  rw [aX_at0 hr] at this
  exact this
theorem OK.r1 {w : Mem} (h : OK (aX w)) {r i : Int} (hr : 0 ≤ r ∧ r < 6) (hi : 0 ≤ i ∧ i < 60) : R3 (w (51 + 2 * r) i) := by
  have := h.2.1 (60 * r + i) (by omega) (by omega)
  rw [aX_at1 hr hi] at this
  exact this
theorem OK.t0 {w : Mem} (h : OK (aX w)) {r : Int} (hr : 0 ≤ r ∧ r < 4) : -1 ≤ w (62 + 2 * r) 1 ∧ w (62 + 2 * r) 1 ≤ 60 := by
  have := h.2.2.1 r hr.1 hr.2
  rw [aX_at2 hr] at this
  exact this
theorem OK.t1 {w : Mem} (h : OK (aX w)) {r i : Int} (hr : 0 ≤ r ∧ r < 4) (hi : 0 ≤ i ∧ i < 60) : -128 ≤ w (63 + 2 * r) i ∧ w (63 + 2 * r) i ≤ 127 := by
  have := h.2.2.2.1 (60 * r + i) (by omega) (by omega)
  rw [aX_at3 hr hi] at this
  exact this
theorem OK.gi {w : Mem} (h : OK (aX w)) (hj : XJ w) : GI w 3 := by
  have h5 := h.2.2.2.2.1
  have h6 := h.2.2.2.2.2.1
  have h8 := h.2.2.2.2.2.2.2.1
  refine ⟨Or.inl rfl, h6, h5, fun i i0 i1 => ?_, hj.2.1⟩
  have := h8 i i0 i1
  have e : aX w 5 i = w 4 i := if_pos ⟨i0, i1⟩
  rw [e] at this
  exact this
