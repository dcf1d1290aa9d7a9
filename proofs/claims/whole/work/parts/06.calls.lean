/-! part 06: calls -/
theorem EvP_blind {bb off : Nat} {D : va_G} {K : Nat → ClassId} {vs : List Value} {n : Nat} {h : AH} : FrameBlind (EvP bb off D K vs n h) := fun a U g mk hh => ⟨hh.1, hh.2.1, KK.warm (U := U.calling g mk a) (State.WarmedH.refl U) hh.2.2⟩
theorem run_W {p : Program} {l : Launch} {e : Env} {R : Room} {s : State} {m : MethodId} {args avs : Array Value} {below : List Frame} {meth : Method} {c : Code} {D : va_G} {K : Nat → ClassId} {bb off a' n' : Nat} {Z : State → Prop} {H : Heap} {locs : List Loc} {cells slots pc : Nat} {L : Array Slot} {rest st0 : List Value} {Q' : Option Value → AH → Prop}
    (hr : va_Run p l e R s m args below meth c H locs cells slots a' (16500 * a') (F0 m pc L st0) rest (EvQ bb off D K n' Q' avs) (fun q => off ≤ q)) (hof : off ≤ s.heap.size) (hS : va_S (fun q => off ≤ q) s.heap H locs)
    (kk : ∀ (v : Option Value) (h' : AH) (H1 : Heap) (locs1 : List Loc), Q' v h' → Wd bb off D K n' h' H1 → va_S (fun q => off ≤ q) s.heap H1 locs1 → W p l e R s m args below meth c H1 locs1 (cells + a') (slots + 16500 * a') Z (F0 m (pc + 3) L ((v.map (rl bb off)).toList ++ rest))) :
    W p l e R s m args below meth c H locs cells slots Z (F0 m pc L st0) := by
  intro T hT X
  obtain ⟨v, st₀, t, T', L1, h0, X', hL, e1, e2, ⟨⟨v', h', hv, hQ, hW⟩, hz, hk⟩, st⟩ := hr T hT X
  cases hv
  rw [h0] at hz hk
  have hS1 : va_S (fun q => off ≤ q) s.heap T'.heap (locs ++ L1) := by
    refine ⟨Nat.le_trans hS.1 (by rw [e1]; exact hz), fun q g1 g2 => ?_, fun q hq => ?_⟩
    · rw [e1, hk q (Nat.lt_of_lt_of_le g1 hS.1) g2]
      exact hS.2.1 q g1 g2
    · rcases List.mem_append.mp hq with z | z
      · exact hS.2.2 q z
      · exact hL q z
  obtain ⟨t2, a1, b1⟩ := kk v' h' T'.heap (locs ++ L1) hQ (by rw [e1]; exact hW) hS1 T' rfl X'
  exact ⟨t2, st t2 a1, b1⟩
/-- what the tables must say of a call -/
def LkC (y : MethodName) (b' : ByteArray) (mL' : Nat) (rt' : Option FieldType) (np : Nat) : Prop :=
  (y.cls ≠ "java/lang/invoke/MethodHandle" ∧ y.cls ≠ "java/lang/invoke/VarHandle" ∧ (parseMethodDescriptor y.desc).map (fun d => d.parameters.length) = some np) ∧ Cond.code y b' mL' rt' ∈ lw_tbl ∧ Cond.initialized y.cls ∈ lw_tbl ∧ mL' ≤ 21
def LkV (own : String) (idx : Nat) (y : MethodName) : Prop := Cond.methodLink own idx y ∈ lw_tbl ∧ Cond.instanceMethod y ∈ lw_tbl ∧ Cond.selects y.cls y y ∈ lw_tbl
def LkS (own : String) (idx : Nat) (y : MethodName) : Prop := Cond.methodLink own idx y ∈ lw_tbl ∧ Cond.static y ∈ lw_tbl
def LkN (own : String) (idx : Nat) (y : MethodName) (host : String) : Prop := Cond.methodLinkNest own idx y host ∈ lw_tbl
theorem code_good (y : MethodName) (b' : ByteArray) (mL' : Nat) (rt' : Option FieldType) : keptWord (.code y b' mL' rt') = true := rfl
theorem st_cat {bb off : Nat} {st : List Value} (h : (st.map fun v => v.category).sum ≤ 8) : ((st.map (rl bb off)).map fun v => v.category).sum ≤ 8 := by
  rw [List.map_map]
  have e : (fun (v : Value) => v.category) ∘ rl bb off = fun v => v.category := funext fun v => rl_cat v
  rw [e]
  exact h
theorem rl_app {bb off : Nat} {v : Option Value} {st : List Value} : (v.toList ++ st).map (rl bb off) = (v.map (rl bb off)).toList ++ st.map (rl bb off) := by
  cases v <;> rfl
theorem rl_rev {bb off : Nat} {As st : List Value} : (As.reverse ++ st).map (rl bb off) = (As.map (rl bb off)).reverse ++ st.map (rl bb off) := by
  rw [List.map_append, List.map_reverse]
section GC
variable {own : String} {b : ByteArray} {mL : Nat} {rt : Option FieldType} {isI : Bool} {d a n0 : Nat} {Q : Option Value → AH → Prop} {G : Nat → List (Option Value) → List Value → Nat → AH → Prop}
variable {pc q tgt : Nat} {st : List Value} {ls : List (Option Value)} {n : Nat} {h : AH}
theorem ws_ok {s : State} {D : va_G} {K : Nat → ClassId} (hK : KK D K s) {y : MethodName} {b' : ByteArray} {mL' : Nat} {rt' : Option FieldType} (hc : Cond.code y b' mL' rt' ∈ lw_tbl) : ∀ w ∈ ([.code y b' mL' rt'] : List Cond), ∀ (a' : Array Value) (U : State), s.WarmedH U.vm → w.before a' U = true := fun w hw a' U hW => by
  rw [List.mem_singleton.mp hw]
  exact (hK.warm hW).2.2 a' _ (gtb_in hc rfl)
theorem recv_of_Wd {bb off : Nat} {D : va_G} {K : Nat → ClassId} {s : State} (hK : KK D K s) {H : Heap} (hW : Wd bb off D K n h H) {x : Int} {ci : Nat} {fs : List Value} {C : String} (hc : h x = cO ci fs) (hci : (clsL[ci]?).map (fun r => r.1) = some C) : ∃ cell : Cell, H[x.toNat + off]? = some cell ∧ cell.vm.isStatics = false ∧ s.vm.findClass C = some cell.cls := by
  obtain ⟨h0, he, -⟩ := hW.at hc
  obtain ⟨r, hr, hrC⟩ := Option.map_eq_some_iff.mp hci
  rw [← hrC]
  exact va_recv hK.1 hW.2.1 hr he
theorem gx_callV (hG : Cx own b mL rt isI d a n0 Q G) {y : MethodName} {b' : ByteArray} {mL' : Nat} {rt' : Option FieldType} {d' a' np idx ci : Nat} {x : Int} {As fs : List Value} {Q' : Option Value → AH → Prop} (lk : LkV own idx y) (lc : LkC y b' mL' rt' np) (hE : Ev y b' mL' rt' d' a' (Vr x :: As) n h Q') (hrec : h x = cO ci fs) (hci : (clsL[ci]?).map (fun r => r.1) = some y.cls) (hd' : d' < d) (han : n + a' ≤ n0 + a) (hst : (st.map fun v => v.category).sum ≤ 8) (hlen : As.length = np) (hd : decode b pc = .ok (.invokevirtual idx, 3)) (hq : pc + 3 = q)
    (k : ∀ (v : Option Value) (h' : AH), Q' v h' → G q ls (v.toList ++ st) (n + a') h') : G pc ls (As.reverse ++ Vr x :: st) n h := by
  obtain ⟨p, l, e, R, s, m, args, below, meth, c, D, K, bb, off, Z, hx, hb, hml, hown, hK, hI, hR, hof, hfin, rfl⟩ := hG
  subst hq
  intro h1 h2 H locs L hL hW hS
  obtain ⟨h0, -, -⟩ := hW.at hrec
  obtain ⟨c1, c2, c3, c4⟩ := lc
  rw [rl_rev, List.map_cons, rl_r h0]
  refine run_W (D := D) (K := K) (a' := a') (n' := n + a') (va_runV (cc := b) (nL := mL) (n := np) (bytes := b') (maxL := mL') (ret := rt') (C := y.cls) (As := As.map (rl bb off)) (b := x.toNat + off) (rm := roomM d' a') ⟨hx, hb, hml, hown, fun w hw => hK.2.2 _ w hw⟩ (hE l D K bb off) ⟨⟨rfl, rfl, ?_, ?_, ws_ok hK c2, List.mem_singleton.mpr rfl, hK.2.2 _ _ (gtb_in c2 rfl), hK.2.2 _ _ (gtb_in c3 rfl), ⟨c1.1, c1.2.1⟩, ?_, hK.2.2 _ _ (gtb_in lk.1 rfl)⟩, hK.2.2 _ _ (gtb_in lk.2.1 rfl), hK.2.2 _ _ (gtb_in lk.2.2 rfl)⟩ ⟨EvP_blind, recv_of_Wd hK hW hrec hci, fun U hU hWm => ⟨?_, by rw [hU]; exact hW, hK.warm hWm⟩⟩ rfl (by simpa using hlen) hL.1.1 rfl (lv_room (pc := pc) (ls := L) (m := m) (rest := []) (st_cat hst)) hd ⟨?_, ?_⟩) hof hS (fun v h' H1 locs1 hQ hW1 hS1 => ?_)
  · show d' + 1 ≤ R.frames
    omega
  · show 8 + (mL' + 11) + 40 * d' ≤ R.locals
    omega
  · intro sig hs
    have h3 := c1.2.2
    rw [hs] at h3
    exact (Option.some.inj h3).symm
  · show _ = ((Vr x :: As).map (rl bb off)).toArray
    rw [List.map_cons, rl_r h0]
  · omega
  · omega
  · have key := k v h' hQ (by omega) (by omega) H1 locs1 L hL hW1 hS1
    rw [rl_app] at key
    rw [show n - n0 + a' = n + a' - n0 by omega, show 16500 * (n - n0) + 16500 * a' = 16500 * (n + a' - n0) by omega]
    exact key
theorem gx_callS (hG : Cx own b mL rt isI d a n0 Q G) {y : MethodName} {b' : ByteArray} {mL' : Nat} {rt' : Option FieldType} {d' a' np idx : Nat} {As : List Value} {Q' : Option Value → AH → Prop} (lk : LkS own idx y) (lc : LkC y b' mL' rt' np) (hE : Ev y b' mL' rt' d' a' As n h Q') (hd' : d' < d) (han : n + a' ≤ n0 + a) (hst : (st.map fun v => v.category).sum ≤ 8) (hlen : As.length = np) (hd : decode b pc = .ok (.invokestatic idx, 3)) (hq : pc + 3 = q)
    (k : ∀ (v : Option Value) (h' : AH), Q' v h' → G q ls (v.toList ++ st) (n + a') h') : G pc ls (As.reverse ++ st) n h := by
  obtain ⟨p, l, e, R, s, m, args, below, meth, c, D, K, bb, off, Z, hx, hb, hml, hown, hK, hI, hR, hof, hfin, rfl⟩ := hG
  subst hq
  intro h1 h2 H locs L hL hW hS
  obtain ⟨c1, c2, c3, c4⟩ := lc
  rw [rl_rev]
  refine run_W (D := D) (K := K) (a' := a') (n' := n + a') (va_runS (cc := b) (nL := mL) (n := np) (bytes := b') (maxL := mL') (ret := rt') (As := As.map (rl bb off)) (rm := roomM d' a') ⟨hx, hb, hml, hown, fun w hw => hK.2.2 _ w hw⟩ (hE l D K bb off) ⟨⟨rfl, rfl, ?_, ?_, ws_ok hK c2, List.mem_singleton.mpr rfl, hK.2.2 _ _ (gtb_in c2 rfl), hK.2.2 _ _ (gtb_in c3 rfl), ⟨c1.1, c1.2.1⟩, ?_, hK.2.2 _ _ (gtb_in lk.1 rfl)⟩, hK.2.2 _ _ (gtb_in lk.2 rfl)⟩ ⟨EvP_blind, fun U hU hWm => ⟨?_, by rw [hU]; exact hW, hK.warm hWm⟩⟩ rfl (by simpa using hlen) hL.1.1 rfl (lv_room (pc := pc) (ls := L) (m := m) (rest := []) (st_cat hst)) hd ⟨?_, ?_⟩) hof hS (fun v h' H1 locs1 hQ hW1 hS1 => ?_)
  · show d' + 1 ≤ R.frames
    omega
  · show 8 + (mL' + 11) + 40 * d' ≤ R.locals
    omega
  · intro sig hs
    have h3 := c1.2.2
    rw [hs] at h3
    exact (Option.some.inj h3).symm
  · rfl
  · omega
  · omega
  · have key := k v h' hQ (by omega) (by omega) H1 locs1 L hL hW1 hS1
    rw [rl_app] at key
    rw [show n - n0 + a' = n + a' - n0 by omega, show 16500 * (n - n0) + 16500 * a' = 16500 * (n + a' - n0) by omega]
    exact key
theorem gx_callSN (hG : Cx own b mL rt isI d a n0 Q G) {y : MethodName} {b' : ByteArray} {mL' : Nat} {rt' : Option FieldType} {d' a' np idx : Nat} {As : List Value} {Q' : Option Value → AH → Prop} {host : String} (lk : LkN own idx y host) (ls2 : Cond.static y ∈ lw_tbl) (lc : LkC y b' mL' rt' np) (hE : Ev y b' mL' rt' d' a' As n h Q') (hd' : d' < d) (han : n + a' ≤ n0 + a) (hst : (st.map fun v => v.category).sum ≤ 8) (hlen : As.length = np) (hd : decode b pc = .ok (.invokestatic idx, 3)) (hq : pc + 3 = q)
    (k : ∀ (v : Option Value) (h' : AH), Q' v h' → G q ls (v.toList ++ st) (n + a') h') : G pc ls (As.reverse ++ st) n h := by
  obtain ⟨p, l, e, R, s, m, args, below, meth, c, D, K, bb, off, Z, hx, hb, hml, hown, hK, hI, hR, hof, hfin, rfl⟩ := hG
  subst hq
  intro h1 h2 H locs L hL hW hS
  obtain ⟨c1, c2, c3, c4⟩ := lc
  rw [rl_rev]
  refine run_W (D := D) (K := K) (a' := a') (n' := n + a') (va_runSN (cc := b) (nL := mL) (n := np) (bytes := b') (maxL := mL') (ret := rt') (As := As.map (rl bb off)) (rm := roomM d' a') ⟨hx, hb, hml, hown, fun w hw => hK.2.2 _ w hw⟩ (hE l D K bb off) ⟨⟨⟨rfl, rfl, ?_, ?_, ws_ok hK c2, List.mem_singleton.mpr rfl⟩, hK.2.2 _ _ (gtb_in c2 rfl), hK.2.2 _ _ (gtb_in c3 rfl), ⟨c1.1, c1.2.1⟩, ?_, hK.2.2 _ _ (gtb_in lk rfl)⟩, hK.2.2 _ _ (gtb_in ls2 rfl), trivial⟩ ⟨EvP_blind, fun U hU hWm => ⟨?_, by rw [hU]; exact hW, hK.warm hWm⟩⟩ rfl (by simpa using hlen) hL.1.1 rfl (lv_room (pc := pc) (ls := L) (m := m) (rest := []) (st_cat hst)) hd ⟨?_, ?_⟩) hof hS (fun v h' H1 locs1 hQ hW1 hS1 => ?_)
  · show d' + 1 ≤ R.frames
    omega
  · show 8 + (mL' + 11) + 40 * d' ≤ R.locals
    omega
  · intro sig hs
    have h3 := c1.2.2
    rw [hs] at h3
    exact (Option.some.inj h3).symm
  · rfl
  · omega
  · omega
  · have key := k v h' hQ (by omega) (by omega) H1 locs1 L hL hW1 hS1
    rw [rl_app] at key
    rw [show n - n0 + a' = n + a' - n0 by omega, show 16500 * (n - n0) + 16500 * a' = 16500 * (n + a' - n0) by omega]
    exact key
theorem gx_callI (hG : Cx own b mL rt isI d a n0 Q G) {y : MethodName} {b' : ByteArray} {mL' : Nat} {rt' : Option FieldType} {d' a' np idx : Nat} {As : List Value} {Q' : Option Value → AH → Prop} {ci : Nat} {x : Int} {fs : List Value} (lk : Cond.methodLink own idx y ∈ lw_tbl ∧ Cond.instanceMethod y ∈ lw_tbl) (hy1 : y.name = "<init>") (lc : LkC y b' mL' none np) (hE : Ev y b' mL' none d' a' (Vr x :: As) n h Q') (hrec : h x = cO ci fs) (hd' : d' < d) (han : n + a' ≤ n0 + a) (hst : (st.map fun v => v.category).sum ≤ 8) (hlen : As.length = np) (hd : decode b pc = .ok (.invokespecial idx, 3)) (hq : pc + 3 = q)
    (k : ∀ (v : Option Value) (h' : AH), Q' v h' → G q ls (v.toList ++ st) (n + a') h') : G pc ls (As.reverse ++ Vr x :: st) n h := by
  obtain ⟨p, l, e, R, s, m, args, below, meth, c, D, K, bb, off, Z, hx, hb, hml, hown, hK, hI, hR, hof, hfin, rfl⟩ := hG
  subst hq
  intro h1 h2 H locs L hL hW hS
  obtain ⟨h0, -, -⟩ := hW.at hrec
  obtain ⟨c1, c2, c3, c4⟩ := lc
  rw [rl_rev, List.map_cons, rl_r h0]
  refine run_W (D := D) (K := K) (a' := a') (n' := n + a') (va_runI (cc := b) (nL := mL) (n := np) (bytes := b') (maxL := mL') (As := As.map (rl bb off)) (b := x.toNat + off) (rm := roomM d' a') ⟨hx, hb, hml, hown, fun w hw => hK.2.2 _ w hw⟩ (hE l D K bb off) ⟨⟨rfl, rfl, ?_, ?_, ws_ok hK c2, List.mem_singleton.mpr rfl, hK.2.2 _ _ (gtb_in c2 rfl), hK.2.2 _ _ (gtb_in c3 rfl), ⟨c1.1, c1.2.1⟩, ?_, hK.2.2 _ _ (gtb_in lk.1 rfl)⟩, hy1, hK.2.2 _ _ (gtb_in lk.2 rfl)⟩ ⟨EvP_blind, fun U hU hWm => ⟨?_, by rw [hU]; exact hW, hK.warm hWm⟩⟩ rfl (by simpa using hlen) hL.1.1 rfl (lv_room (pc := pc) (ls := L) (m := m) (rest := []) (st_cat hst)) hd ⟨?_, ?_⟩) hof hS (fun v h' H1 locs1 hQ hW1 hS1 => ?_)
  · show d' + 1 ≤ R.frames
    omega
  · show 8 + (mL' + 11) + 40 * d' ≤ R.locals
    omega
  · intro sig hs
    have h3 := c1.2.2
    rw [hs] at h3
    exact (Option.some.inj h3).symm
  · show _ = ((Vr x :: As).map (rl bb off)).toArray
    rw [List.map_cons, rl_r h0]
  · omega
  · omega
  · have key := k v h' hQ (by omega) (by omega) H1 locs1 L hL hW1 hS1
    rw [rl_app] at key
    rw [show n - n0 + a' = n + a' - n0 by omega, show 16500 * (n - n0) + 16500 * a' = 16500 * (n + a' - n0) by omega]
    exact key
theorem gx_callIN (hG : Cx own b mL rt isI d a n0 Q G) {y : MethodName} {b' : ByteArray} {mL' : Nat} {rt' : Option FieldType} {d' a' np idx : Nat} {As : List Value} {Q' : Option Value → AH → Prop} {host : String} {ci : Nat} {x : Int} {fs : List Value} (lk : LkN own idx y host) (li : Cond.instanceMethod y ∈ lw_tbl) (hy1 : y.name = "<init>") (lc : LkC y b' mL' none np) (hE : Ev y b' mL' none d' a' (Vr x :: As) n h Q') (hrec : h x = cO ci fs) (hd' : d' < d) (han : n + a' ≤ n0 + a) (hst : (st.map fun v => v.category).sum ≤ 8) (hlen : As.length = np) (hd : decode b pc = .ok (.invokespecial idx, 3)) (hq : pc + 3 = q)
    (k : ∀ (v : Option Value) (h' : AH), Q' v h' → G q ls (v.toList ++ st) (n + a') h') : G pc ls (As.reverse ++ Vr x :: st) n h := by
  obtain ⟨p, l, e, R, s, m, args, below, meth, c, D, K, bb, off, Z, hx, hb, hml, hown, hK, hI, hR, hof, hfin, rfl⟩ := hG
  subst hq
  intro h1 h2 H locs L hL hW hS
  obtain ⟨h0, -, -⟩ := hW.at hrec
  obtain ⟨c1, c2, c3, c4⟩ := lc
  rw [rl_rev, List.map_cons, rl_r h0]
  refine run_W (D := D) (K := K) (a' := a') (n' := n + a') (va_runIN (cc := b) (nL := mL) (n := np) (bytes := b') (maxL := mL') (As := As.map (rl bb off)) (b := x.toNat + off) (rm := roomM d' a') ⟨hx, hb, hml, hown, fun w hw => hK.2.2 _ w hw⟩ (hE l D K bb off) ⟨⟨⟨rfl, rfl, ?_, ?_, ws_ok hK c2, List.mem_singleton.mpr rfl⟩, hK.2.2 _ _ (gtb_in c2 rfl), hK.2.2 _ _ (gtb_in c3 rfl), ⟨c1.1, c1.2.1⟩, ?_, hK.2.2 _ _ (gtb_in lk rfl)⟩, hy1, hK.2.2 _ _ (gtb_in li rfl)⟩ ⟨EvP_blind, fun U hU hWm => ⟨?_, by rw [hU]; exact hW, hK.warm hWm⟩⟩ rfl (by simpa using hlen) hL.1.1 rfl (lv_room (pc := pc) (ls := L) (m := m) (rest := []) (st_cat hst)) hd ⟨?_, ?_⟩) hof hS (fun v h' H1 locs1 hQ hW1 hS1 => ?_)
  · show d' + 1 ≤ R.frames
    omega
  · show 8 + (mL' + 11) + 40 * d' ≤ R.locals
    omega
  · intro sig hs
    have h3 := c1.2.2
    rw [hs] at h3
    exact (Option.some.inj h3).symm
  · show _ = ((Vr x :: As).map (rl bb off)).toArray
    rw [List.map_cons, rl_r h0]
  · omega
  · omega
  · have key := k v h' hQ (by omega) (by omega) H1 locs1 L hL hW1 hS1
    rw [rl_app] at key
    rw [show n - n0 + a' = n + a' - n0 by omega, show 16500 * (n - n0) + 16500 * a' = 16500 * (n + a' - n0) by omega]
    exact key
/-- an overriding method: the call names x, the receiver's class has y -/
def LkO (own : String) (idx : Nat) (x : MethodName) (C : String) (y : MethodName) (np : Nat) : Prop := (x.cls ≠ "java/lang/invoke/MethodHandle" ∧ x.cls ≠ "java/lang/invoke/VarHandle" ∧ (parseMethodDescriptor x.desc).map (fun d => d.parameters.length) = some np) ∧ Cond.methodLink own idx x ∈ lw_tbl ∧ Cond.sameMethod x.cls x.cls x.name x.desc ∈ lw_tbl ∧ Cond.instanceMethod x ∈ lw_tbl ∧ Cond.selects C x y ∈ lw_tbl ∧ Cond.instanceMethod y ∈ lw_tbl ∧ ∃ b0 m0 r0, Cond.code x b0 m0 r0 ∈ lw_tbl
theorem gx_callO (hG : Cx own b mL rt isI d a n0 Q G) {y : MethodName} {b' : ByteArray} {mL' : Nat} {rt' : Option FieldType} {d' a' np idx : Nat} {As : List Value} {Q' : Option Value → AH → Prop} {xm : MethodName} {C : String} {ci : Nat} {x : Int} {fs : List Value} (lk : LkO own idx xm C y np) (lc : LkC y b' mL' rt' np) (hE : Ev y b' mL' rt' d' a' (Vr x :: As) n h Q') (hrec : h x = cO ci fs) (hci : (clsL[ci]?).map (fun r => r.1) = some C) (hd' : d' < d) (han : n + a' ≤ n0 + a) (hst : (st.map fun v => v.category).sum ≤ 8) (hlen : As.length = np) (hd : decode b pc = .ok (.invokevirtual idx, 3)) (hq : pc + 3 = q)
    (k : ∀ (v : Option Value) (h' : AH), Q' v h' → G q ls (v.toList ++ st) (n + a') h') : G pc ls (As.reverse ++ Vr x :: st) n h := by
  obtain ⟨p, l, e, R, s, m, args, below, meth, c, D, K, bb, off, Z, hx, hb, hml, hown, hK, hI, hR, hof, hfin, rfl⟩ := hG
  subst hq
  intro h1 h2 H locs L hL hW hS
  obtain ⟨h0, -, -⟩ := hW.at hrec
  obtain ⟨c1, c2, c3, c4⟩ := lc
  obtain ⟨o1, o2, o3, o4, o5, o6, b0, m0, r0, o7⟩ := lk
  rw [rl_rev, List.map_cons, rl_r h0]
  refine run_W (D := D) (K := K) (a' := a') (n' := n + a') (va_runU (cc := b) (nL := mL) (n := np) (bytes := b') (maxL := mL') (ret := rt') (x := xm) (owner := xm.cls) (C := C) (As := As.map (rl bb off)) (b := x.toNat + off) (rm := roomM d' a') ⟨hx, hb, hml, hown, fun w hw => hK.2.2 _ w hw⟩ (hE l D K bb off) ⟨⟨rfl, rfl, ?_, ?_, ws_ok hK c2, List.mem_singleton.mpr rfl⟩, hK.2.2 _ _ (gtb_in c2 rfl), hK.2.2 _ _ (gtb_in c3 rfl), ⟨o1.1, o1.2.1⟩, ?_, hK.2.2 _ _ (gtb_in o2 rfl), hK.2.2 _ _ (gtb_in o3 rfl), va_Decl.of (hK.2.2 #[] _ (gtb_in o4 rfl)) (hK.2.2 #[] _ (gtb_in o7 rfl)), hK.2.2 _ _ (gtb_in o5 rfl), hK.2.2 _ _ (gtb_in o6 rfl)⟩ ⟨EvP_blind, recv_of_Wd hK hW hrec hci, fun U hU hWm => ⟨?_, by rw [hU]; exact hW, hK.warm hWm⟩⟩ rfl (by simpa using hlen) hL.1.1 rfl (lv_room (pc := pc) (ls := L) (m := m) (rest := []) (st_cat hst)) hd ⟨?_, ?_⟩) hof hS (fun v h' H1 locs1 hQ hW1 hS1 => ?_)
  · show d' + 1 ≤ R.frames
    omega
  · show 8 + (mL' + 11) + 40 * d' ≤ R.locals
    omega
  · intro sig hs
    have h3 := o1.2.2
    rw [hs] at h3
    exact (Option.some.inj h3).symm
  · show _ = ((Vr x :: As).map (rl bb off)).toArray
    rw [List.map_cons, rl_r h0]
  · omega
  · omega
  · have key := k v h' hQ (by omega) (by omega) H1 locs1 L hL hW1 hS1
    rw [rl_app] at key
    rw [show n - n0 + a' = n + a' - n0 by omega, show 16500 * (n - n0) + 16500 * a' = 16500 * (n + a' - n0) by omega]
    exact key
/-- super.y(..) -/
theorem gx_callSU (hG : Cx own b mL rt isI d a n0 Q G) {y : MethodName} {b' : ByteArray} {mL' : Nat} {rt' : Option FieldType} {d' a' np idx : Nat} {As : List Value} {Q' : Option Value → AH → Prop} {C : String} {ci : Nat} {x : Int} {fs : List Value} (lk : Cond.methodLink own idx y ∈ lw_tbl ∧ Cond.sameMethod y.cls y.cls y.name y.desc ∈ lw_tbl ∧ Cond.superclass own y.cls ∈ lw_tbl ∧ Cond.instanceMethod y ∈ lw_tbl) (hno : y.name ≠ "<init>") (lc : LkC y b' mL' rt' np) (hE : Ev y b' mL' rt' d' a' (Vr x :: As) n h Q') (hrec : h x = cO ci fs) (hci : (clsL[ci]?).map (fun r => r.1) = some C) (hd' : d' < d) (han : n + a' ≤ n0 + a) (hst : (st.map fun v => v.category).sum ≤ 8) (hlen : As.length = np) (hd : decode b pc = .ok (.invokespecial idx, 3)) (hq : pc + 3 = q)
    (k : ∀ (v : Option Value) (h' : AH), Q' v h' → G q ls (v.toList ++ st) (n + a') h') : G pc ls (As.reverse ++ Vr x :: st) n h := by
  obtain ⟨p, l, e, R, s, m, args, below, meth, c, D, K, bb, off, Z, hx, hb, hml, hown, hK, hI, hR, hof, hfin, rfl⟩ := hG
  subst hq
  intro h1 h2 H locs L hL hW hS
  obtain ⟨h0, -, -⟩ := hW.at hrec
  obtain ⟨c1, c2, c3, c4⟩ := lc
  obtain ⟨r, hr, rfl⟩ := Option.map_eq_some_iff.mp hci
  rw [rl_rev, List.map_cons, rl_r h0]
  refine run_W (D := D) (K := K) (a' := a') (n' := n + a') (va_runSU (cc := b) (nL := mL) (n := np) (bytes := b') (maxL := mL') (ret := rt') (C := r.1) (As := As.map (rl bb off)) (b := x.toNat + off) (rm := roomM d' a') (hK.1.1 ci _ hr).2 ⟨hx, hb, hml, hown, fun w hw => hK.2.2 _ w hw⟩ (hE l D K bb off) ⟨⟨rfl, rfl, ?_, ?_, ws_ok hK c2, List.mem_singleton.mpr rfl⟩, hK.2.2 _ _ (gtb_in lk.1 rfl), hK.2.2 _ _ (gtb_in lk.2.1 rfl), hK.2.2 _ _ (gtb_in lk.2.2.1 rfl), hK.2.2 _ _ (gtb_in lk.2.2.2 rfl), hK.2.2 _ _ (gtb_in c3 rfl), hK.2.2 _ _ (gtb_in c2 rfl), hno, ?_⟩ ⟨EvP_blind, recv_of_Wd hK hW hrec hci, fun U hU hWm => ⟨?_, by rw [hU]; exact hW, hK.warm hWm⟩⟩ rfl (by simpa using hlen) hL.1.1 rfl (lv_room (pc := pc) (ls := L) (m := m) (rest := []) (st_cat hst)) hd ⟨?_, ?_⟩) hof hS (fun v h' H1 locs1 hQ hW1 hS1 => ?_)
  · show d' + 1 ≤ R.frames
    omega
  · show 8 + (mL' + 11) + 40 * d' ≤ R.locals
    omega
  · intro sig hs
    have h3 := c1.2.2
    rw [hs] at h3
    exact (Option.some.inj h3).symm
  · show _ = ((Vr x :: As).map (rl bb off)).toArray
    rw [List.map_cons, rl_r h0]
  · omega
  · omega
  · have key := k v h' hQ (by omega) (by omega) H1 locs1 L hL hW1 hS1
    rw [rl_app] at key
    rw [show n - n0 + a' = n + a' - n0 by omega, show 16500 * (n - n0) + 16500 * a' = 16500 * (n + a' - n0) by omega]
    exact key
/-- instanceof: the object's class is below the named one, or is it, or isn't -/
theorem gx_instY (hG : Cx own b mL rt isI d a n0 Q G) {x : Int} {ci idx : Nat} {fs : List Value} {C nm : String} (hl : Cond.classLink own idx nm ∈ lw_tbl) (hca : Cond.castable C nm ∈ lw_tbl) (hrec : h x = cO ci fs) (hci : (clsL[ci]?).map (fun r => r.1) = some C) (hd : decode b pc = .ok (.instanceof idx, 3)) (hq : pc + 3 = q) (k : G q ls (Vi 1 :: st) n h) : G pc ls (Vr x :: st) n h := by
  obtain ⟨p, l, e, R, s, m, args, below, meth, c, D, K, bb, off, Z, hx, hb, hml, hown, hK, hI, hR, hof, hfin, rfl⟩ := hG
  subst hq
  intro h1 h2 H locs L hL hW hS
  obtain ⟨h0, -, -⟩ := hW.at hrec
  rw [List.map_cons, rl_r h0]
  exact va_instY hx hb hown (hK.2.2 _ _ (gtb_in hl rfl)) (hK.2.2 _ _ (gtb_in hca rfl)) (recv_of_Wd hK hW hrec hci) hd (k h1 h2 H locs L hL hW hS)
theorem gx_instS (hG : Cx own b mL rt isI d a n0 Q G) {x : Int} {ci idx : Nat} {fs : List Value} {nm : String} (hl : Cond.classLink own idx nm ∈ lw_tbl) (hrec : h x = cO ci fs) (hci : (clsL[ci]?).map (fun r => r.1) = some nm) (hd : decode b pc = .ok (.instanceof idx, 3)) (hq : pc + 3 = q) (k : G q ls (Vi 1 :: st) n h) : G pc ls (Vr x :: st) n h := by
  obtain ⟨p, l, e, R, s, m, args, below, meth, c, D, K, bb, off, Z, hx, hb, hml, hown, hK, hI, hR, hof, hfin, rfl⟩ := hG
  subst hq
  intro h1 h2 H locs L hL hW hS
  obtain ⟨h0, -, -⟩ := hW.at hrec
  rw [List.map_cons, rl_r h0]
  obtain ⟨r, hr, rfl⟩ := Option.map_eq_some_iff.mp hci
  exact va_instS hx hb hown (hK.2.2 _ _ (gtb_in hl rfl)) (hK.1.1 ci _ hr).2 (recv_of_Wd hK hW hrec hci) hd (k h1 h2 H locs L hL hW hS)
theorem gx_instN (hG : Cx own b mL rt isI d a n0 Q G) {x : Int} {ci idx : Nat} {fs : List Value} {C nm : String} (hl : Cond.classLink own idx nm ∈ lw_tbl) (hnc : (C, nm) ∈ ncL) (hrec : h x = cO ci fs) (hci : (clsL[ci]?).map (fun r => r.1) = some C) (hd : decode b pc = .ok (.instanceof idx, 3)) (hq : pc + 3 = q) (k : G q ls (Vi 0 :: st) n h) : G pc ls (Vr x :: st) n h := by
  obtain ⟨p, l, e, R, s, m, args, below, meth, c, D, K, bb, off, Z, hx, hb, hml, hown, hK, hI, hR, hof, hfin, rfl⟩ := hG
  subst hq
  intro h1 h2 H locs L hL hW hS
  obtain ⟨h0, -, -⟩ := hW.at hrec
  rw [List.map_cons, rl_r h0]
  exact va_instNo hx hb hown (hK.2.2 _ _ (gtb_in hl rfl)) (hK.2.1 _ hnc) (recv_of_Wd hK hW hrec hci) hd (k h1 h2 H locs L hL hW hS)
/-- System.arraycopy between rows of ints -/
def cpy (F F' : Int → Int) (sp dp len : Int) : Int → Int := fun k => if dp ≤ k ∧ k < dp + len then F (sp + (k - dp)) else F' k
theorem gx_acopy (hG : Cx own b mL rt isI d a n0 Q G) {x y sp dp len : Int} {N M idx : Nat} {F F' : Int → Int} (hl : Cond.methodLink own idx arraycopyName ∈ lw_tbl) (hw : Cond.native arraycopyName ∈ lw_tbl ∧ Cond.static arraycopyName ∈ lw_tbl ∧ Cond.initialized "java/lang/System" ∈ lw_tbl) (hc : h x = cA 0 N F) (hc' : h y = cA 0 M F') (g1 : 0 ≤ sp) (g2 : 0 ≤ dp) (g3 : 0 ≤ len) (g4 : sp + len ≤ N) (g5 : dp + len ≤ M) (hN : N ≤ 2147483647) (hM : M ≤ 2147483647) (hd0 : 1 ≤ d) (hst : (st.map fun v => v.category).sum ≤ 8) (hd : decode b pc = .ok (.invokestatic idx, 3)) (hq : pc + 3 = q)
    (k : G q ls st n (hset h y (cA 0 M (cpy F F' sp dp len)))) : G pc ls (Vi len :: Vi dp :: Vr y :: Vi sp :: Vr x :: st) n h := by
  obtain ⟨p, l, e, R, s, m, args, below, meth, c, D, K, bb, off, Z, hx, hb, hml, hown, hK, hI, hR, hof, hfin, rfl⟩ := hG
  subst hq
  intro h1 h2 H locs L hL hW hS
  obtain ⟨h0, he, -⟩ := hW.at hc
  obtain ⟨h0', he', -⟩ := hW.at hc'
  simp only [List.map_cons, rl_r h0, rl_r h0']
  have es := i3_clamp g1 (by omega)
  have ed := i3_clamp g2 (by omega)
  have el := i3_clamp g3 (by omega)
  have hcx : H[x.toNat + off]? = some (arrV (K 0) N (fun j : Nat => .int (Int32.ofInt (F j)))) := arr_at hW hc
  have hcy : H[y.toNat + off]? = some (arrV (K 0) M (fun j : Nat => .int (Int32.ofInt (F' j)))) := arr_at hW hc'
  obtain ⟨-, k0, hk0, cm0, hkk0⟩ := (hK.1.2 0 _ (tysL_get (by decide))).1 N (fun j : Nat => .int (Int32.ofInt (F j)))
  obtain ⟨-, k1, hk1, cm1, hkk1⟩ := (hK.1.2 0 _ (tysL_get (by decide))).1 M (fun j : Nat => .int (Int32.ofInt (F' j)))
  have ns : ∀ {z : Int}, 0 ≤ z → z ≤ 2147483647 → ¬ Int32.ofInt z < 0 := fun a1 a2 => by
    rw [← i3_zero, i3_lt ⟨by omega, a2⟩ ⟨by omega, by omega⟩]
    omega
  intro T hT X
  have hcat := st_cat (bb := bb) (off := off) hst
  obtain ⟨vm', X', step⟩ := X.arraycopy hx hown (hK.2.2 _ _ (gtb_in hl rfl)) (hK.2.2 _ _ (gtb_in hw.1 rfl)) (hK.2.2 _ _ (gtb_in hw.2.1 rfl)) (hK.2.2 _ _ (gtb_in hw.2.2 rfl)) (src := x.toNat + off) (dst := y.toNat + off) (cs := arrV (K 0) N (fun j : Nat => .int (Int32.ofInt (F j)))) (cd := arrV (K 0) M (fun j : Nat => .int (Int32.ofInt (F' j)))) (srcPos := Int32.ofInt sp) (destPos := Int32.ofInt dp) (n := Int32.ofInt len) (by rw [hT]; exact hcx) (by rw [hT]; exact hcy)
    (fun _ h => by cases h) (fun _ h => by cases h) (fun h => by cases h) (fun h => by cases h) hk0 hk1 hkk0 hkk1 (by simp [tyC, refKind]) (ns g1 (by omega)) (ns g2 (by omega)) (ns g3 (by omega))
    (by rw [i3_toInt ⟨by omega, by omega⟩, i3_toInt ⟨by omega, by omega⟩, arrV_size]; omega)
    (by rw [i3_toInt ⟨by omega, by omega⟩, i3_toInt ⟨by omega, by omega⟩, arrV_size]; omega)
    (fun vm₁ _ i hi => by
      have e9 : (arrV (K 0) N (fun j : Nat => .int (Int32.ofInt (F j)))).slots.getD ((Int32.ofInt sp).toNatClampNeg + i) .null = .int (Int32.ofInt (F (((Int32.ofInt sp).toNatClampNeg + i : Nat) : Int))) := by
        rw [Array.getD_eq_getD_getElem?, arrV_read _ _ (by omega)]
        rfl
      refine ⟨?_, ?_⟩
      · rw [e9]; rfl
      · rw [e9]; exact trivial)
    (g := F0 m pc L _) rfl (by rw [hml]; exact hL.1.1) (rest := st.map (rl bb off)) rfl (by rw [hb]; exact hd) (by omega) (by show 2 * 0 + _ + (18 : Nat) ≤ _; omega)
  have e1 : copied (arrV (K 0) N (fun j : Nat => .int (Int32.ofInt (F j)))) (arrV (K 0) M (fun j : Nat => .int (Int32.ofInt (F' j)))) (Int32.ofInt sp) (Int32.ofInt dp) (Int32.ofInt len) = vp_cell (K 0) (M, cnt off 0 (cpy F F' sp dp len)) := by
    refine (va_copied (fun z => .int z) (K 0) (K 0) (fun j : Nat => Int32.ofInt (F j)) (fun j : Nat => Int32.ofInt (F' j)) (by omega)).trans ?_
    rw [arr0]
    congr 1
    funext j
    unfold va_cpy cpy
    by_cases e : dp ≤ j ∧ j < dp + len
    · rw [if_pos e, if_pos (by omega)]
      show Value.int (Int32.ofInt (F _)) = Value.int (Int32.ofInt (F _))
      rw [show ((((Int32.ofInt sp).toNatClampNeg + (j - (Int32.ofInt dp).toNatClampNeg) : Nat)) : Int) = sp + (j - dp) by omega]
    · rw [if_neg e, if_neg (by omega)]
  rw [e1] at X' step
  have hl2 : y.toNat + off < H.size := (Array.getElem?_eq_some_iff.mp hcy).1
  have oq : ∀ q : Nat, q ≠ y.toNat + off → (H.setIfInBounds (y.toNat + off) (vp_cell (K 0) (M, cnt off 0 (cpy F F' sp dp len))))[q]? = H[q]? := fun q hq => by simp [Array.getElem?_setIfInBounds, Ne.symm hq]
  have hA : off ≤ y.toNat + off := by omega
  obtain ⟨t, a1, b1⟩ := k h1 h2 _ _ L hL (hW.write (H1 := H.setIfInBounds (y.toNat + off) (vp_cell (K 0) (M, cnt off 0 (cpy F F' sp dp len)))) hc' (by simp) (by
      show (H.setIfInBounds _ _)[y.toNat + off]? = some _
      simp [Array.getElem?_setIfInBounds, hl2]) oq) ⟨by simp; exact hS.1, fun q w1 w2 => by
      rw [oq q (fun e => w2 (by rw [e]; exact hA))]
      exact hS.2.1 q w1 w2, fun q hq => by
      rcases List.mem_append.mp hq with h | h
      · exact hS.2.2 q h
      · obtain ⟨z, -, hz⟩ := List.mem_map.mp h
        rw [← hz]
        exact hA⟩ ((T.setVm vm').setCell (y.toNat + off) (vp_cell (K 0) (M, cnt off 0 (cpy F F' sp dp len)))) (by rw [← hT]; rfl) X'
  exact ⟨t, step t a1, b1⟩
end GC
