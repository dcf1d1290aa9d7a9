/-! My own layer: an abstract machine whose heap is a function of names (integers); name k is the cell at k + off. -/
def Vi (z : Int) : Value := .int (Int32.ofInt z)
def Vj (z : Int) : Value := .long (Int64.ofInt z)
/-- a reference by its name; -1 is the script -/
def Vr (a : Int) : Value := .ref (a + 1).toNat
def rl (bb off : Nat) (v : Value) : Value := match v with
  | .ref 0 => .ref bb
  | .ref (k + 1) => .ref (k + off)
  | w => w
theorem rl_r {bb off : Nat} {a : Int} (h : 0 ≤ a) : rl bb off (Vr a) = .ref (a.toNat + off) := by
  unfold Vr
  rw [show (a + 1).toNat = a.toNat + 1 by omega]
  rfl
theorem rl_s {bb off : Nat} : rl bb off (Vr (-1)) = .ref bb := rfl
theorem rl_cat {bb off : Nat} (v : Value) : (rl bb off v).category = v.category := by
  cases v with
  | ref k => cases k <;> rfl
  | _ => rfl
abbrev AE : Type := (Nat × Nat × (Int → Int)) ⊕ (Nat × List Value)
abbrev AH : Type := Int → Option AE
def cO (ci : Nat) (fs : List Value) : Option AE := some (.inr (ci, fs))
def cA (t N : Nat) (F : Int → Int) : Option AE := some (.inl (t, N, F))
def hset (h : AH) (a : Int) (c : Option AE) : AH := fun k => if k = a then c else h k
def up (F : Int → Int) (i v : Int) : Int → Int := fun k => if k = i then v else F k
theorem hset_eq {h : AH} {a : Int} {c : Option AE} : hset h a c a = c := if_pos rfl
theorem hset_ne {h : AH} {a k : Int} {c : Option AE} (e : k ≠ a) : hset h a c k = h k := if_neg e
theorem hset_hset {h : AH} {a : Int} {c d : Option AE} : hset (hset h a c) a d = hset h a d := by
  funext k
  unfold hset
  split <;> rfl
theorem up_eq {F : Int → Int} {i v : Int} : up F i v i = v := if_pos rfl
theorem up_ne {F : Int → Int} {i v k : Int} (e : k ≠ i) : up F i v k = F k := if_neg e
def cnt (off t : Nat) (F : Int → Int) : ((Nat → Int32) ⊕ (Nat → Int64) ⊕ (Nat → UInt32) ⊕ (Nat → UInt64) ⊕ (Nat → Option Nat)) :=
  if t = 1 then .inr (.inl (fun j => Int64.ofInt (F j)))
  else if t < 4 then .inl (fun j => Int32.ofInt (F j))
  else .inr (.inr (.inr (.inr (fun j => if F j < 0 then none else some ((F j).toNat + off)))))
def cnv (bb off : Nat) (K : Nat → ClassId) (c : Option AE) : va_E := match c with
  | none => .inr (0, [])
  | some (.inl (t, N, F)) => .inl (K t, N, cnt off t F)
  | some (.inr (ci, fs)) => .inr (ci, fs.map (rl bb off))
def wld (bb off : Nat) (K : Nat → ClassId) (n : Nat) (h : AH) : va_W := (List.range n).map (fun (k : Nat) => (k + off, cnv bb off K (h (k : Int))))
theorem wld_get {bb off : Nat} {K : Nat → ClassId} {n k : Nat} {h : AH} (hk : k < n) : (wld bb off K n h)[k]? = some (k + off, cnv bb off K (h (k : Int))) := by
  simp [wld, hk]
theorem wld_some {bb off : Nat} {K : Nat → ClassId} {n k : Nat} {h : AH} {q : Nat × va_E} (hk : (wld bb off K n h)[k]? = some q) : k < n ∧ q = (k + off, cnv bb off K (h (k : Int))) := by
  have hl : k < n := by
    have := (List.getElem?_eq_some_iff.mp hk).1
    simpa [wld] using this
  rw [wld_get hl] at hk
  exact ⟨hl, (Option.some.inj hk).symm⟩
theorem wld_len {bb off : Nat} {K : Nat → ClassId} {n : Nat} {h : AH} : (wld bb off K n h).length = n := by simp [wld]
theorem wld_set {bb off : Nat} {K : Nat → ClassId} {n k : Nat} {h : AH} {a : Int} {c : Option AE} (hk : k < n) (ha : a = (k : Int)) : (wld bb off K n h).set k (k + off, cnv bb off K c) = wld bb off K n (hset h a c) := by
  apply List.ext_getElem?
  intro i
  rw [List.getElem?_set]
  by_cases hi : i < n
  · rw [wld_get hi, wld_len]
    by_cases e : k = i
    · subst e
      subst ha
      rw [if_pos rfl, if_pos hk, wld_get hk, hset_eq]
    · rw [if_neg e, wld_get hi, hset_ne (by omega)]
  · have h1 : (wld bb off K n (hset h a c))[i]? = none := List.getElem?_eq_none (by rw [wld_len]; omega)
    have h2 : (wld bb off K n h)[i]? = none := List.getElem?_eq_none (by rw [wld_len]; omega)
    rw [h1, h2, if_neg (by omega)]
theorem wld_push {bb off : Nat} {K : Nat → ClassId} {n : Nat} {h : AH} {c : Option AE} : wld bb off K n h ++ [(n + off, cnv bb off K c)] = wld bb off K (n + 1) (hset h (n : Int) c) := by
  apply List.ext_getElem?
  intro i
  by_cases hi : i < n
  · rw [List.getElem?_append_left (by rw [wld_len]; exact hi), wld_get hi, wld_get (by omega), hset_ne (by omega)]
  · rw [List.getElem?_append_right (by rw [wld_len]; omega), wld_len]
    by_cases e : i = n
    · subst e
      rw [wld_get (by omega), hset_eq, Nat.sub_self]
      rfl
    · rw [List.getElem?_eq_none (by simp; omega), List.getElem?_eq_none (by rw [wld_len]; omega)]
theorem wld_D {bb off : Nat} {K : Nat → ClassId} {n : Nat} {h : AH} : va_D (fun q => off ≤ q) (wld bb off K n h) := by
  refine ⟨fun i j p q hi hj e => ?_, fun k q hk => ?_⟩
  · obtain ⟨-, rfl⟩ := wld_some hi
    obtain ⟨-, rfl⟩ := wld_some hj
    have e : i + off = j + off := e
    omega
  · obtain ⟨-, rfl⟩ := wld_some hk
    show off ≤ k + off
    omega
/-- the names that there are -/
def Dm (n : Nat) (h : AH) : Prop := ∀ a : Int, h a ≠ none ↔ (0 ≤ a ∧ a < n)
theorem Dm.set {n : Nat} {h : AH} {a : Int} {c0 c : AE} (H : Dm n h) (ha : h a = some c0) : Dm n (hset h a (some c)) := by
  intro k
  by_cases e : k = a
  · subst e
    rw [hset_eq]
    have := (H k).mp (by rw [ha]; simp)
    simp [this]
  · rw [hset_ne e]
    exact H k
theorem Dm.push {n : Nat} {h : AH} {c : AE} (H : Dm n h) : Dm (n + 1) (hset h (n : Int) (some c)) := by
  intro k
  by_cases e : k = (n : Int)
  · subst e
    rw [hset_eq]
    simp
    omega
  · rw [hset_ne e, H k]
    omega
theorem Dm.lt {n : Nat} {h : AH} {a : Int} {c : AE} (H : Dm n h) (ha : h a = some c) : 0 ≤ a ∧ a < n := (H a).mp (by rw [ha]; simp)
def Wd (bb off : Nat) (D : va_G) (K : Nat → ClassId) (n : Nat) (h : AH) (H : Heap) : Prop := H.size = n + off ∧ va_P D clsL (wld bb off K n h) H ∧ Dm n h
def tyC (t : Nat) : FieldType := match t with
  | 0 => .int
  | 1 => .long
  | 2 => .byte
  | 3 => .boolean
  | 4 => .object "WhoSaysOne$Row"
  | 5 => .object "WhoSaysOne$Game"
  | 6 => .object "WhoSaysOne$Player"
  | _ => .array .long
def tysL (K : Nat → ClassId) : List (ClassId × FieldType) := (List.range 8).map (fun t => (K t, tyC t))
theorem tysL_get {K : Nat → ClassId} {t : Nat} (h : t < 8) : (tysL K)[t]? = some (K t, tyC t) := by simp [tysL, h]
/-- which class an object of one class isn't -/
def ncL : List (String × String) := [("WhoSaysOne$Player", "WhoSaysOne$Small"), ("WhoSaysOne$Player", "WhoSaysOne$Pair"), ("WhoSaysOne$Player", "WhoSaysOne$Best"), ("WhoSaysOne$Player", "WhoSaysOne$Longer"), ("WhoSaysOne$Player", "WhoSaysOne$Chance"), ("WhoSaysOne$Small", "WhoSaysOne$Pair"), ("WhoSaysOne$Small", "WhoSaysOne$Best"), ("WhoSaysOne$Small", "WhoSaysOne$Longer"), ("WhoSaysOne$Small", "WhoSaysOne$Chance"), ("WhoSaysOne$Pair", "WhoSaysOne$Small"), ("WhoSaysOne$Pair", "WhoSaysOne$Best"), ("WhoSaysOne$Pair", "WhoSaysOne$Longer"), ("WhoSaysOne$Pair", "WhoSaysOne$Chance"), ("WhoSaysOne$Best", "WhoSaysOne$Small"), ("WhoSaysOne$Best", "WhoSaysOne$Pair"), ("WhoSaysOne$Best", "WhoSaysOne$Longer"), ("WhoSaysOne$Best", "WhoSaysOne$Chance"), ("WhoSaysOne$Longer", "WhoSaysOne$Pair"), ("WhoSaysOne$Longer", "WhoSaysOne$Best"), ("WhoSaysOne$Longer", "WhoSaysOne$Chance"), ("WhoSaysOne$Chance", "WhoSaysOne$Small"), ("WhoSaysOne$Chance", "WhoSaysOne$Best"), ("WhoSaysOne$Chance", "WhoSaysOne$Longer")]
/-- words that stand after warming -/
def keptWord : Cond → Bool
  | .methodLinkNest _ _ _ _ => true
  | .castable _ _ => true
  | .arrayOver _ => true
  | w => goodWord w
def gtb : List Cond := lw_tbl.filter keptWord
theorem gtb_in {w : Cond} (h : w ∈ lw_tbl) (hk : keptWord w = true) : w ∈ gtb := List.mem_filter.mpr ⟨h, hk⟩
def KK (D : va_G) (K : Nat → ClassId) (U : State) : Prop := va_K D clsL (tysL K) U ∧ (∀ q ∈ ncL, va_Nc q.1 q.2 U) ∧ ∀ (A : Array Value) (w : Cond), w ∈ gtb → w.before A U = true
theorem KK.warm {D : va_G} {K : Nat → ClassId} {s U : State} (hW : s.WarmedH U.vm) (h : KK D K s) : KK D K U := by
  refine ⟨va_K.moved hW.alike h.1, fun q hq => (h.2.1 q hq).moved hW.alike, fun A w hw => ?_⟩
  have h0 := h.2.2 #[] w hw
  have hk := (List.mem_filter.mp hw).2
  cases w <;> first
    | exact word_at hW (good_of_word hk) h0
    | exact va_tabs rfl rfl (va_Nw.warmM hW h0)
    | exact va_tabs rfl rfl (va_Nw.warmC hW h0)
    | exact (show (Cond.arrayOver _).before A U = (Cond.arrayOver _).before #[] (s.setVm U.vm) from rfl).trans ((Cond.arrayOver_setVmC hW.alike _).trans h0)

/-- the abstract locals by their places -/
def asc (f : Value → Value) : Nat → List (Option Value) → List (Nat × Value)
  | _, [] => []
  | i, none :: l => asc f (i + 1) l
  | i, some v :: l => (i, f v) :: asc f (i + 1) l
theorem asc_in {f : Value → Value} {v : Value} : ∀ (l : List (Option Value)) (i k : Nat), l[k]? = some (some v) → (i + k, f v) ∈ asc f i l
  | [], _, _, h => by simp at h
  | x :: l, i, 0, h => by
    simp at h
    subst h
    simp [asc]
  | x :: l, i, k + 1, h => by
    have h2 := asc_in (f := f) (v := v) l (i + 1) k (by simpa using h)
    rw [show i + 1 + k = i + (k + 1) by omega] at h2
    cases x with
    | none => exact h2
    | some y => exact List.mem_cons_of_mem _ h2
theorem asc_of {f : Value → Value} : ∀ (l : List (Option Value)) (i : Nat) (q : Nat × Value), q ∈ asc f i l → ∃ (k : Nat) (v : Value), l[k]? = some (some v) ∧ q = (i + k, f v)
  | [], _, _, h => by simp [asc] at h
  | none :: l, i, q, h => by
    obtain ⟨k, v, h1, h2⟩ := asc_of l (i + 1) q h
    exact ⟨k + 1, v, by simpa using h1, by rw [h2]; congr 1; omega⟩
  | some y :: l, i, q, h => by
    rcases List.mem_cons.mp h with h | h
    · exact ⟨0, y, rfl, h⟩
    · obtain ⟨k, v, h1, h2⟩ := asc_of l (i + 1) q h
      exact ⟨k + 1, v, by simpa using h1, by rw [h2]; congr 1; omega⟩
def Lh (f : Value → Value) (L : Array Slot) (mL : Nat) (ls : List (Option Value)) : Prop := lv_has L mL (asc f 0 ls) ∧ ls.length ≤ mL
theorem Lh.get {f : Value → Value} {L : Array Slot} {mL : Nat} {ls : List (Option Value)} (h : Lh f L mL ls) {k : Nat} {v : Value} (hk : ls[k]? = some (some v)) : L[k]? = some (.val (f v)) := by
  have := h.1.2.2 _ (asc_in ls 0 k hk)
  simpa using this
/-- is the value in this place of one slot -/
def one1 (l : List (Option Value)) (i : Nat) : Bool := match l[i]? with
  | some (some (.long _)) => false
  | some (some (.double _)) => false
  | _ => true
def prev1 (l : List (Option Value)) (i : Nat) : Bool := match i with
  | 0 => true
  | k + 1 => one1 l k
theorem one1_cat {l : List (Option Value)} {i : Nat} {v : Value} (h : one1 l i = true) (hv : l[i]? = some (some v)) : v.category = 1 := by
  unfold one1 at h
  rw [hv] at h
  cases v <;> first | rfl | cases h
/-- the locals behind a store of one slot -/
theorem Lh.set1 {f : Value → Value} (hf : ∀ v, (f v).category = v.category) {L L' : Array Slot} {mL : Nat} {ls : List (Option Value)} (h : Lh f L mL ls) {i : Nat} {v : Value} (hp : prev1 ls i = true) (hi : i < ls.length)
    (hL : lv_has L' mL ((i, f v) :: (asc f 0 ls).filter (fun q => !(q.1 == i) && !(q.1 + 1 == i && q.2.category == 2)))) : Lh f L' mL (ls.set i (some v)) := by
  refine ⟨⟨hL.1, hL.2.1, fun q hq => ?_⟩, by simpa using h.2⟩
  obtain ⟨k, w, h1, rfl⟩ := asc_of _ _ _ hq
  rw [Nat.zero_add]
  refine hL.2.2 (k, f w) ?_
  rw [List.getElem?_set] at h1
  by_cases e : i = k
  · subst e
    rw [if_pos rfl, if_pos hi] at h1
    cases h1
    exact List.mem_cons_self
  · rw [if_neg e] at h1
    refine List.mem_cons_of_mem _ (List.mem_filter.mpr ⟨by simpa using asc_in ls 0 k h1, ?_⟩)
    have hki : ¬ k = i := fun z => e z.symm
    simp only [hf]
    by_cases e2 : k + 1 = i
    · subst e2
      have := one1_cat hp h1
      simp [this]
    · simp [hki, e2]
theorem Lh.set2 {f : Value → Value} (hf : ∀ v, (f v).category = v.category) {L L' : Array Slot} {mL : Nat} {ls : List (Option Value)} (h : Lh f L mL ls) {i : Nat} {v : Value} (hp : prev1 ls i = true) (hi : i < ls.length)
    (hL : lv_has L' mL ((i, f v) :: (asc f 0 ls).filter (fun q => !(q.1 == i) && (!(q.1 == i + 1) && !(q.1 + 1 == i && q.2.category == 2))))) : Lh f L' mL ((ls.set i (some v)).set (i + 1) none) := by
  refine ⟨⟨hL.1, hL.2.1, fun q hq => ?_⟩, by simpa using h.2⟩
  obtain ⟨k, w, h1, rfl⟩ := asc_of _ _ _ hq
  rw [Nat.zero_add]
  refine hL.2.2 (k, f w) ?_
  rw [List.getElem?_set] at h1
  by_cases e1 : i + 1 = k
  · subst e1
    rw [if_pos rfl] at h1
    split at h1 <;> simp at h1
  rw [if_neg e1, List.getElem?_set] at h1
  by_cases e : i = k
  · subst e
    rw [if_pos rfl, if_pos hi] at h1
    cases h1
    exact List.mem_cons_self
  · rw [if_neg e] at h1
    refine List.mem_cons_of_mem _ (List.mem_filter.mpr ⟨by simpa using asc_in ls 0 k h1, ?_⟩)
    have hki : ¬ k = i := fun z => e z.symm
    have hki1 : ¬ k = i + 1 := fun z => e1 z.symm
    simp only [hf]
    by_cases e2 : k + 1 = i
    · subst e2
      have := one1_cat hp h1
      simp [this]
      omega
    · simp [hki, e2, hki1]
theorem Lh.drop {f : Value → Value} {L : Array Slot} {mL : Nat} {ls ls' : List (Option Value)} (h : Lh f L mL ls) (hl : ls'.length ≤ mL) (hs : ∀ (k : Nat) (v : Value), ls'[k]? = some (some v) → ls[k]? = some (some v)) : Lh f L mL ls' := by
  refine ⟨⟨h.1.1, h.1.2.1, fun q hq => ?_⟩, hl⟩
  obtain ⟨k, w, h1, rfl⟩ := asc_of _ _ _ hq
  have := h.get (hs k w h1)
  simpa using this
/-- which value a method of a return type may answer, by which instruction -/
def retI (rt : Option FieldType) (i : Instr) (v : Option Value) : Prop :=
  (rt = some .int ∧ i = .ireturn ∧ ∃ z : Int, v = some (Vi z)) ∨ (rt = some .boolean ∧ i = .ireturn ∧ ∃ z : Int, (z = 0 ∨ z = 1) ∧ v = some (Vi z)) ∨ (rt = some .long ∧ i = .lreturn ∧ ∃ z : Int, v = some (Vj z)) ∨
  (rt = none ∧ i = .return_ ∧ v = none) ∨ ((∃ C, rt = some (.object C)) ∧ i = .areturn ∧ ∃ a : Int, v = some (Vr a))
abbrev roomM (d a : Nat) : Room := { frames := d, cells := a, slots := 16500 * a, locals := 40 * d }
def EvP (bb off : Nat) (D : va_G) (K : Nat → ClassId) (vs : List Value) (n : Nat) (h : AH) : Array Value → State → Prop := fun v U => v = (vs.map (rl bb off)).toArray ∧ Wd bb off D K n h U.heap ∧ KK D K U
def EvQ (bb off : Nat) (D : va_G) (K : Nat → ClassId) (n : Nat) (Q : Option Value → AH → Prop) : Array Value → State → Outcome → State → Prop := fun _ st oc t => (∃ (v : Option Value) (h' : AH), oc = .returned (v.map (rl bb off)) ∧ Q v h' ∧ Wd bb off D K n h' t.heap) ∧ va_F (fun q => off ≤ q) st t
/-- a method's contract: from these arguments and this heap it comes to an answer and a heap with Q; a new cells; d: how deep its calls go at most -/
def Ev (y : MethodName) (b : ByteArray) (mL : Nat) (rt : Option FieldType) (d a : Nat) (vs : List Value) (n : Nat) (h : AH) (Q : Option Value → AH → Prop) : Prop :=
  ∀ (l : Launch) (D : va_G) (K : Nat → ClassId) (bb off : Nat), Met l y [.code y b mL rt] (roomM d a) (EvP bb off D K vs n h) (EvQ bb off D K (n + a) Q) a (16500 * a) (fun q => off ≤ q)
/-- the machine at a place of a method's body comes to an end with Q -/
def Cx (own : String) (b : ByteArray) (mL : Nat) (rt : Option FieldType) (isI : Bool) (d a n0 : Nat) (Q : Option Value → AH → Prop) (G : Nat → List (Option Value) → List Value → Nat → AH → Prop) : Prop :=
  ∃ (p : Program) (l : Launch) (e : Env) (R : Room) (s : State) (m : MethodId) (args : Array Value) (below : List Frame) (meth : Method) (c : Code) (D : va_G) (K : Nat → ClassId) (bb off : Nat) (Z : State → Prop),
    p.tables.exec = Jvm.exec ∧ c.code = b ∧ c.maxLocals = mL ∧ s.vm.findClass own = some m.cls ∧ KK D K s ∧ (isI = true → meth.name = "<init>") ∧ (d ≤ R.frames ∧ 40 * d ≤ R.locals ∧ a ≤ R.cells ∧ 16500 * a ≤ R.slots) ∧ off ≤ s.heap.size ∧
    (∀ (i : Instr) (v : Option Value) (pc : Nat) (L : Array Slot) (h : AH) (H : Heap) (locs : List Loc), retI rt i v → decode b pc = .ok (i, 1) → Q v h → Wd bb off D K (n0 + a) h H → va_S (fun q => off ≤ q) s.heap H locs → W p l e R s m args below meth c H locs a (16500 * a) Z (F0 m pc L (v.toList.map (rl bb off)))) ∧
    G = fun pc ls st n h => n0 ≤ n → n ≤ n0 + a → ∀ (H : Heap) (locs : List Loc) (L : Array Slot), Lh (rl bb off) L mL ls → Wd bb off D K n h H → va_S (fun q => off ≤ q) s.heap H locs → W p l e R s m args below meth c H locs (n - n0) (16500 * (n - n0)) Z (F0 m pc L (st.map (rl bb off)))
/-- what a method's locals are at its entry -/
def ent : List Value → List (Option Value)
  | [] => []
  | .long x :: l => some (.long x) :: none :: ent l
  | .double x :: l => some (.double x) :: none :: ent l
  | v :: l => some v :: ent l
theorem lv_args_ent (f : Value → Value) (hf : ∀ v, (f v).category = v.category) : ∀ (vs : List Value) (i : Nat), lv_args i (vs.map f) = asc f i (ent vs)
  | [], _ => rfl
  | v :: vs, i => by
    have e1 := lv_args_ent f hf vs (i + 1)
    have e2 := lv_args_ent f hf vs (i + 2)
    simp only [List.map_cons, lv_args, hf v]
    cases v <;> simp [ent, asc, Value.category, e1, e2]
theorem ent_len (f : Value → Value) (hf : ∀ v, (f v).category = v.category) : ∀ (vs : List Value), (lg_sl (vs.map f)).length = (ent vs).length
  | [] => rfl
  | v :: vs => by
    have e1 := ent_len f hf vs
    unfold lg_sl at e1 ⊢
    rw [List.map_cons, List.flatMap_cons, List.length_append, e1, hf v]
    cases v <;> simp [ent, Value.category] <;> omega
theorem ent_pad (f : Value → Value) : ∀ (l : List (Option Value)) (i k : Nat), asc f i (l ++ List.replicate k none) = asc f i l
  | [], i, 0 => rfl
  | [], i, k + 1 => by
    have := ent_pad f [] (i + 1) k
    simpa [List.replicate_succ, asc] using this
  | none :: l, i, k => by simpa [asc] using ent_pad f l (i + 1) k
  | some v :: l, i, k => by simpa [asc] using ent_pad f l (i + 1) k
theorem Ev.mk {y : MethodName} {b : ByteArray} {mL : Nat} {rt : Option FieldType} {isI : Bool} {d a : Nat} {vs : List Value} {n : Nat} {h : AH} {Q : Option Value → AH → Prop} (hy : plainName y.cls = true) (hI : isI = true → y.name = "<init>") (hl : (ent vs).length ≤ mL)
    (k : ∀ G, Cx y.cls b mL rt isI d a n Q G → G 0 (ent vs ++ List.replicate (mL - (ent vs).length) none) [] n h) : Ev y b mL rt d a vs n h Q := by
  intro l D K bb off
  refine Met.ofW (cc := b) (maxL := mL) (ret := rt) hy rfl ?_
  intro p e s m args below meth c s₁ B hml hv
  obtain ⟨rfl, hW, hK⟩ := hv
  have hoff : off ≤ s.heap.size := by rw [hW.1]; omega
  have key := k (fun pc ls st n' h' => n ≤ n' → n' ≤ n + a → ∀ (H : Heap) (locs : List Loc) (L : Array Slot), Lh (rl bb off) L mL ls → Wd bb off D K n' h' H → va_S (fun q => off ≤ q) s.heap H locs → W p l e (roomM d a) s m (vs.map (rl bb off)).toArray below meth c H locs (n' - n) (16500 * (n' - n)) (MQ below (EvQ bb off D K (n + a) Q) (vs.map (rl bb off)).toArray s a (16500 * a) (fun q => off ≤ q)) (F0 m pc L (st.map (rl bb off)))) ?_
  · have hl0 := lv_entry (vs.map (rl bb off)) (n := mL) (by rw [ent_len _ rl_cat]; exact hl)
    have e0 := key (Nat.le_refl _) (Nat.le_add_right _ _) s.heap [] _ ⟨⟨hl0.1, hl0.2.1, by rw [ent_pad, ← lv_args_ent _ rl_cat]; exact hl0.2.2⟩, by simp; omega⟩ hW va_S.rf
    rw [Nat.sub_self] at e0
    rw [lg_entry_eq]
    exact e0
  · refine ⟨p, l, e, roomM d a, s, m, (vs.map (rl bb off)).toArray, below, meth, c, D, K, bb, off, MQ below (EvQ bb off D K (n + a) Q) (vs.map (rl bb off)).toArray s a (16500 * a) (fun q => off ≤ q), B.exec, B.bytes, hml, findClass_of_methodNamed B.named, hK, fun z => (name_of_methodNamed B.named B.method).1.trans (hI z), ⟨Nat.le_refl _, Nat.le_refl _, Nat.le_refl _, Nat.le_refl _⟩, hoff, ?_, rfl⟩
    intro i v pc L h' H locs hr hd hq hW' hS
    have hlocks := B.notSynchronized
    have hrt := B.returns
    have fin : ∀ t : State, t.heap = H → s.WarmedH t.vm → (∃ (v' : Option Value) (h' : AH), Outcome.returned (v.map (rl bb off)) = .returned (v'.map (rl bb off)) ∧ Q v' h' ∧ Wd bb off D K (n + a) h' t.heap) ∧ va_F (fun q => off ≤ q) s t := fun t ht _ => ⟨⟨v, h', rfl, hq, by rw [ht]; exact hW'⟩, hS.F ht⟩
    rcases hr with ⟨r1, rfl, z, rfl⟩ | ⟨r1, rfl, z, hz, rfl⟩ | ⟨r1, rfl, z, rfl⟩ | ⟨r1, rfl, rfl⟩ | ⟨⟨C, r1⟩, rfl, z, rfl⟩
    · exact W.iret B.exec B.bytes (hrt.trans r1) fin hS.2.2 hd
    · refine W.zret B.exec B.bytes (hrt.trans r1) ?_ fin hS.2.2 hd
      rcases hz with rfl | rfl <;> rfl
    · exact W.lret B.exec B.bytes (hrt.trans r1) fin hS.2.2 hd
    · exact W.vret B.exec B.bytes (hrt.trans r1) fin hS.2.2 hd
    · refine W.aret B.exec B.bytes (hrt.trans r1) (Or.inl ⟨C, rfl⟩) (Or.inr ?_) fin hS.2.2 hd
      unfold Vr rl
      cases (z + 1).toNat <;> exact ⟨_, rfl⟩
