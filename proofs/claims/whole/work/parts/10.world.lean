/-! part 10: the heap behind both constructors as a function of one memory w : cell, place -> number; forms of contracts -/
abbrev Mem : Type := Int → Int → Int
noncomputable def bi (P : Prop) : Int := @ite Int P (Classical.propDecidable P) 1 0
theorem bi_t {P : Prop} (h : P) : bi P = 1 := if_pos h
theorem bi_f {P : Prop} (h : ¬ P) : bi P = 0 := if_neg h
theorem bi_01 (P : Prop) : bi P = 0 ∨ bi P = 1 := by
  rcases Classical.em P with h | h
  · exact Or.inr (bi_t h)
  · exact Or.inl (bi_f h)
theorem bi_R (P : Prop) : R3 (bi P) := by rcases bi_01 P with h | h <;> rw [h] <;> decide
theorem bi_eq0 {P : Prop} : bi P = 0 ↔ ¬ P := ⟨fun h hp => (by rw [bi_t hp] at h; cases h), bi_f⟩
theorem bi_ne0 {P : Prop} : bi P ≠ 0 ↔ P := ⟨fun h => Classical.byContradiction fun hp => h (bi_f hp), fun hp h => bi_eq0.mp h hp⟩
theorem bi_eq1 {P : Prop} : bi P = 1 ↔ P := ⟨fun h => Classical.byContradiction fun hp => (by rw [bi_f hp] at h; cases h), bi_t⟩
theorem bi_congr {P P' : Prop} (h : P ↔ P') : bi P = bi P' := by rw [propext h]
/-- places of cells of numbers: type and size -/
def shp (a : Int) : Option (Nat × Nat) :=
  if 50 ≤ a ∧ a < 70 then (if a % 2 = 1 then some (0, 60) else none)
  else if 70 ≤ a ∧ a < 76 then (if a % 2 = 1 then some (0, 13) else none)
  else if 25 ≤ a ∧ a ≤ 45 then some (1, 401)
  else if a = 4 ∨ a = 17 then some (0, 13)
  else if a = 6 then some (3, 3)
  else if a = 14 ∨ a = 18 then some (0, 2)
  else if a = 20 ∨ a = 21 then some (0, 60)
  else if a = 22 then some (0, 4001)
  else if a = 23 then some (1, 401)
  else if a = 47 ∨ a = 48 then some (0, 1024)
  else if a = 49 then some (0, 6)
  else if a < 77 then none
  else if a = 77 ∨ a = 78 then some (0, 6)
  else if a = 79 then some (0, 360)
  else if a = 80 then some (0, 60)
  else if a = 81 then some (0, 4)
  else if a = 82 then some (2, 240)
  else if a = 83 then some (0, 4001)
  else if a = 84 then some (0, 2)
  else if a = 85 then some (0, 14)
  else if a = 86 then some (0, 2)
  else if a = 87 then some (0, 14)
  else if a = 88 ∨ a = 89 then some (0, 3)
  else if a = 90 then some (0, 42)
  else if a = 91 then some (1, 401)
  else if a = 92 then some (1, 8421)
  else if a = 93 ∨ a = 94 then some (0, 14)
  else if a = 95 then some (0, 61)
  else if a = 96 then some (3, 16384)
  else if a = 97 ∨ a = 98 then some (0, 16384)
  else if a = 99 then some (3, 122)
  else if a = 100 ∨ a = 101 then some (0, 200)
  else none
/-- the other cells -/
def objC (w : Mem) (a : Int) : Option AE :=
  if 50 ≤ a ∧ a < 70 then cO 1 [Vr (a + 1), Vi (w a 1)]
  else if a = 3 ∨ a = 16 ∨ (70 ≤ a ∧ a < 76) then cO 2 [Vr (a + 1), Vi (w a 1), Vi (w a 2), Vj (w a 3)]
  else if 8 ≤ a ∧ a < 14 then cO (a - 5).toNat []
  else if a = 0 then cO 0 [Vr 1, Vr 2, Vr 3, Vr 5, Vr 6, Vr 7, Vr 14, Vi (w a 7), Vr 15, Vr 19, Vr 46, Vi (w a 11), Vj (w a 12), Vj (w a 13), Vi (w a 14), Vr 49]
  else if a = 1 then cA 4 6 (fun r => 50 + 2 * r)
  else if a = 2 then cA 4 4 (fun t => 62 + 2 * t)
  else if a = 5 then cA 5 3 (fun k => 70 + 2 * k)
  else if a = 7 then cA 6 6 (fun k => 8 + k)
  else if a = 15 then cO 9 [Vr 16, Vr 18, Vi (w a 2), Vi (w a 3)]
  else if a = 19 then cO 10 [Vr 20, Vr 21, Vi (w a 2), Vr 22, Vr 23, Vr 24]
  else if a = 24 then cA 7 21 (fun k => 25 + k)
  else if a = 46 then cO 11 [Vi (w a 0), Vr 47, Vr 48, Vi (w a 3)]
  else if a = 76 then cO 12 [Vi (w a 0), Vr 77, Vi (w a 2), Vj (w a 3), Vj (w a 4), Vr 78, Vr 79, Vr 80, Vr 81, Vr 82, Vr 83, Vi (w a 11), Vi (w a 12), Vr 84, Vi (w a 14), Vr 85, Vi (w a 16), Vi (w a 17), Vi (w a 18), Vi (w a 19), Vi (w a 20), Vr 86, Vr 87, Vr 88, Vr 89, Vr 90, Vr 91, Vr 92, Vi (w a 28), Vr 93, Vr 94, Vr 95, Vr 96, Vr 97, Vr 98, Vj (w a 35), Vr 99, Vr 100, Vr 101, Vj (w a 39)]
  else none
def hp (w : Mem) : AH := fun a => match shp a with
  | some (t, N) => cA t N (w a)
  | none => objC w a
theorem hp_arr {w : Mem} {a : Int} {t N : Nat} (h : shp a = some (t, N)) : hp w a = cA t N (w a) := by unfold hp; rw [h]
theorem hp_obj {w : Mem} {a : Int} (h : shp a = none) : hp w a = objC w a := by unfold hp; rw [h]
theorem shp_row {a : Int} (h : 50 ≤ a ∧ a < 70 ∧ a % 2 = 0) : shp a = none := by unfold shp; rw [if_pos (by omega), if_neg (by omega)]
theorem shp_rowA {a : Int} (h : 50 ≤ a ∧ a < 70 ∧ a % 2 = 0) : shp (a + 1) = some (0, 60) := by unfold shp; rw [if_pos (by omega), if_pos (by omega)]
def isG (a : Int) : Prop := a = 3 ∨ a = 16 ∨ a = 70 ∨ a = 72 ∨ a = 74
theorem shp_game {a : Int} (h : isG a) : shp a = none := by rcases h with rfl | rfl | rfl | rfl | rfl <;> rfl
theorem shp_gameA {a : Int} (h : isG a) : shp (a + 1) = some (0, 13) := by rcases h with rfl | rfl | rfl | rfl | rfl <;> rfl
theorem hpX {w : Mem} : hp w 0 = cO 0 [Vr 1, Vr 2, Vr 3, Vr 5, Vr 6, Vr 7, Vr 14, Vi (w 0 7), Vr 15, Vr 19, Vr 46, Vi (w 0 11), Vj (w 0 12), Vj (w 0 13), Vi (w 0 14), Vr 49] := rfl
theorem hpRow {w : Mem} {a : Int} (h : 50 ≤ a ∧ a < 70 ∧ a % 2 = 0) : hp w a = cO 1 [Vr (a + 1), Vi (w a 1)] := by rw [hp_obj (shp_row h)]; unfold objC; rw [if_pos (by omega)]
theorem hpRowA {w : Mem} {a : Int} (h : 50 ≤ a ∧ a < 70 ∧ a % 2 = 0) : hp w (a + 1) = cA 0 60 (w (a + 1)) := hp_arr (shp_rowA h)
theorem hpGame {w : Mem} {a : Int} (h : isG a) : hp w a = cO 2 [Vr (a + 1), Vi (w a 1), Vi (w a 2), Vj (w a 3)] := by rcases h with rfl | rfl | rfl | rfl | rfl <;> rfl
theorem hpGameA {w : Mem} {a : Int} (h : isG a) : hp w (a + 1) = cA 0 13 (w (a + 1)) := hp_arr (shp_gameA h)
theorem hpRd {w : Mem} : hp w 15 = cO 9 [Vr 16, Vr 18, Vi (w 15 2), Vi (w 15 3)] := rfl
theorem hpSu {w : Mem} : hp w 19 = cO 10 [Vr 20, Vr 21, Vi (w 19 2), Vr 22, Vr 23, Vr 24] := rfl
theorem hpSo {w : Mem} : hp w 46 = cO 11 [Vi (w 46 0), Vr 47, Vr 48, Vi (w 46 3)] := rfl
theorem hpM {w : Mem} : hp w 76 = cO 12 [Vi (w 76 0), Vr 77, Vi (w 76 2), Vj (w 76 3), Vj (w 76 4), Vr 78, Vr 79, Vr 80, Vr 81, Vr 82, Vr 83, Vi (w 76 11), Vi (w 76 12), Vr 84, Vi (w 76 14), Vr 85, Vi (w 76 16), Vi (w 76 17), Vi (w 76 18), Vi (w 76 19), Vi (w 76 20), Vr 86, Vr 87, Vr 88, Vr 89, Vr 90, Vr 91, Vr 92, Vi (w 76 28), Vr 93, Vr 94, Vr 95, Vr 96, Vr 97, Vr 98, Vj (w 76 35), Vr 99, Vr 100, Vr 101, Vj (w 76 39)] := rfl
theorem hpRows {w : Mem} : hp w 1 = cA 4 6 (fun r => 50 + 2 * r) := rfl
theorem hpTexts {w : Mem} : hp w 2 = cA 4 4 (fun t => 62 + 2 * t) := rfl
theorem hpKept {w : Mem} : hp w 5 = cA 5 3 (fun k => 70 + 2 * k) := rfl
theorem hpFam {w : Mem} : hp w 7 = cA 6 6 (fun k => 8 + k) := rfl
theorem hpJust {w : Mem} : hp w 24 = cA 7 21 (fun k => 25 + k) := rfl
theorem hpJustA {w : Mem} {k : Int} (h : 0 ≤ k ∧ k < 21) : hp w (25 + k) = cA 1 401 (w (25 + k)) := hp_arr (by unfold shp; rw [if_neg (by omega), if_neg (by omega), if_pos (by omega)])
theorem hpPl {w : Mem} {k : Int} (h : 0 ≤ k ∧ k < 6) : hp w (8 + k) = cO (3 + k).toNat [] := by
  rcases (show k = 0 ∨ k = 1 ∨ k = 2 ∨ k = 3 ∨ k = 4 ∨ k = 5 by omega) with rfl | rfl | rfl | rfl | rfl | rfl <;> rfl
/-- a cell's contents rest on its own part of the memory -/
theorem hp_congr {w w' : Mem} {a : Int} (h : w a = w' a) : hp w a = hp w' a := by
  unfold hp
  cases shp a with
  | some q => obtain ⟨t, N⟩ := q; simp only [h]
  | none =>
    show objC w a = objC w' a
    unfold objC
    rw [h]
/-- the memory with one number changed -/
def wu (w : Mem) (a i v : Int) : Mem := fun b => if b = a then up (w a) i v else w b
/-- the memory with one cell changed -/
def wc (w : Mem) (a : Int) (F : Int → Int) : Mem := fun b => if b = a then F else w b
theorem wc_eq {w : Mem} {a : Int} {F : Int → Int} : wc w a F a = F := if_pos rfl
theorem wc_ne {w : Mem} {a b : Int} {F : Int → Int} (e : b ≠ a) : wc w a F b = w b := if_neg e
theorem wu_ne {w : Mem} {a b i v : Int} (e : b ≠ a) : wu w a i v b = w b := if_neg e
theorem wu_at {w : Mem} {a i v : Int} : wu w a i v a = up (w a) i v := if_pos rfl
theorem wu_eq {w : Mem} {a i v : Int} : wu w a i v a i = v := by rw [wu_at, up_eq]
theorem wu_pl {w : Mem} {a i j v : Int} (e : j ≠ i) : wu w a i v a j = w a j := by rw [wu_at, up_ne e]
theorem wu_wc {w : Mem} {a i v : Int} : wu w a i v = wc w a (up (w a) i v) := rfl
theorem hp_upd {w w' : Mem} {a : Int} {c : Option AE} (h1 : c = hp w' a) (h2 : ∀ b, b ≠ a → w b = w' b) : hset (hp w) a c = hp w' := by
  funext b
  by_cases e : b = a
  · subst e; rw [hset_eq, h1]
  · rw [hset_ne e]; exact hp_congr (h2 b e)
theorem hp_arrU {w : Mem} {a i v : Int} {t N : Nat} (h : shp a = some (t, N)) : hset (hp w) a (cA t N (up (w a) i v)) = hp (wu w a i v) :=
  hp_upd (by rw [hp_arr h, wu_at]) (fun b e => (wu_ne e).symm)
theorem hp_arrC {w : Mem} {a : Int} {F : Int → Int} {t N : Nat} (h : shp a = some (t, N)) : hset (hp w) a (cA t N F) = hp (wc w a F) :=
  hp_upd (by rw [hp_arr h, wc_eq]) (fun b e => (wc_ne e).symm)
/-- the numbers' fields of an object -/
theorem hp_objU {w : Mem} {a k z : Int} {c : Option AE} (h : c = hp (wu w a k z) a) : hset (hp w) a c = hp (wu w a k z) := hp_upd h (fun b e => (wu_ne e).symm)
/-- contracts over the memory -/
def EvW (y : MethodName) (b : ByteArray) (mL : Nat) (rt : Option FieldType) (d : Nat) (vs : List Value) (w : Mem) (P : Option Value → Mem → Prop) : Prop := Ev y b mL rt d 0 vs 102 (hp w) (fun v h' => ∃ w', h' = hp w' ∧ P v w')
/-- the answer v, nothing changed -/
def EvX (y : MethodName) (b : ByteArray) (mL : Nat) (rt : Option FieldType) (d : Nat) (vs : List Value) (w : Mem) (v : Value) : Prop := EvW y b mL rt d vs w (fun v' w' => v' = some v ∧ w' = w)
/-- an int, and a memory -/
def EvI (y : MethodName) (b : ByteArray) (mL : Nat) (rt : Option FieldType) (d : Nat) (vs : List Value) (w : Mem) (P : Int → Mem → Prop) : Prop := EvW y b mL rt d vs w (fun v' w' => ∃ z, v' = some (Vi z) ∧ P z w')
def EvJ (y : MethodName) (b : ByteArray) (mL : Nat) (rt : Option FieldType) (d : Nat) (vs : List Value) (w : Mem) (P : Int → Mem → Prop) : Prop := EvW y b mL rt d vs w (fun v' w' => ∃ z, v' = some (Vj z) ∧ P z w')
def EvV (y : MethodName) (b : ByteArray) (mL : Nat) (rt : Option FieldType) (d : Nat) (vs : List Value) (w : Mem) (P : Mem → Prop) : Prop := EvW y b mL rt d vs w (fun v' w' => v' = none ∧ P w')
/-- an int, a long of which something is known, nothing changed -/
def EvY (y : MethodName) (b : ByteArray) (mL : Nat) (rt : Option FieldType) (d : Nat) (vs : List Value) (w : Mem) (P : Int → Prop) : Prop := EvI y b mL rt d vs w (fun z w' => w' = w ∧ P z)
def EvZ (y : MethodName) (b : ByteArray) (mL : Nat) (rt : Option FieldType) (d : Nat) (vs : List Value) (w : Mem) (P : Int → Prop) : Prop := EvJ y b mL rt d vs w (fun z w' => w' = w ∧ P z)
