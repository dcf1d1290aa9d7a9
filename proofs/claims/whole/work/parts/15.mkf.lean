/-! part 15: contracts of methods of classes that the machine has natives in -/
theorem Met_ofWF {l : Launch} {y : MethodName} {ws ws' : List Cond} {rm : Room} {Pc : Array Value → State → Prop} {Qc : Array Value → State → Outcome → State → Prop} {mc ms : Nat} {free : Addr → Prop} {cc : ByteArray} {maxL : Nat} {ret : Option FieldType}
    (hy : plainFor y = true) (hw : ws = Cond.code y cc maxL ret :: ws')
    (body : ∀ p e s m args below meth c s₁, BodyLoose p l y (headSpec ws rm) cc maxL ret e s m args below meth c s₁ → c.maxLocals = maxL → Pc args s →
      W p l e (headSpec ws rm).room s m args below meth c s.heap [] 0 0 (MQ below Qc args s mc ms free) (entryFrame m args maxL)) : Met l y ws rm Pc Qc mc ms free := by
  refine MetFree.of_bodySF (code := cc) (maxLocals := maxL) (ret := ret) hy ?_ ?_
  · intro args s m h hn
    obtain ⟨meth, c, h1, h2, h3, h4, h5, h6, -, -⟩ := Cond.code_spec hn (atoms_spec (ws := ws) h _ (by rw [hw]; exact List.mem_cons_self))
    exact ⟨meth, c, h1, h2, h3, h4, h5, h6⟩
  · intro p e s m args below meth c s₁ B hml hP _
    have hh0 : s₁.heap = s.heap := by rw [B.state]; rfl
    obtain ⟨t, a1, o, b1, b2, b3⟩ := body p e s m args below meth c s₁ B hml hP s₁ hh0 (Stand.of_body B)
    exact ⟨t, o, a1, b1, b2, ⟨b3.1, b3.2⟩⟩
theorem Ev.mkF {y : MethodName} {b : ByteArray} {mL : Nat} {rt : Option FieldType} {isI : Bool} {d a : Nat} {vs : List Value} {n : Nat} {h : AH} {Q : Option Value → AH → Prop} (hy : plainFor y = true) (hI : isI = true → y.name = "<init>") (hl : (ent vs).length ≤ mL)
    (k : ∀ G, Cx y.cls b mL rt isI d a n Q G → G 0 (ent vs ++ List.replicate (mL - (ent vs).length) none) [] n h) : Ev y b mL rt d a vs n h Q := by
  intro l D K bb off
  refine Met_ofWF (cc := b) (maxL := mL) (ret := rt) hy rfl ?_
  intro p e s m args below meth c s₁ B hml hv
  obtain ⟨rfl, hW, hK⟩ := hv
  have hoff : off ≤ s.heap.size := by rw [hW.1]; omega
  have key := k (fun pc ls st n' h' => n ≤ n' → n' ≤ n + a → ∀ (H : Heap) (locs : List Loc) (L : Array Slot), Lh (rl bb off) L mL ls → Wd bb off D K n' h' H → va_S (fun q => off ≤ q) s.heap H locs → W p l e (roomM d a) s m (vs.map (rl bb off)).toArray below meth c H locs (n' - n) (16500 * (n' - n)) (MQ below (EvQ bb off D K (n + a) Q) (vs.map (rl bb off)).toArray s a (16500 * a) (fun q => off ≤ q)) (F0 m pc L (st.map (rl bb off)))) ?_
  · have hl0 := lv_entry (vs.map (rl bb off)) (n := mL) (by rw [ent_len _ rl_cat]; exact hl)
    have e0 := key (Nat.le_refl _) (Nat.le_add_right _ _) s.heap [] _ ⟨⟨hl0.1, hl0.2.1, by rw [ent_pad, ← lv_args_ent _ rl_cat]; exact hl0.2.2⟩, by simp; omega⟩ hW va_S.rf
    rw [Nat.sub_self] at e0
    rw [lg_entry_eq]
    exact e0
  · refine ⟨p, l, e, roomM d a, s, m, (vs.map (rl bb off)).toArray, below, meth, c, D, K, bb, off, MQ below (EvQ bb off D K (n + a) Q) (vs.map (rl bb off)).toArray s a (16500 * a) (fun q => off ≤ q), B.exec, B.bytes, hml, findClass_of_methodNamed B.named, hK, fun z => (name_of_methodNamed B.named B.method).1.trans (hI z), ⟨Nat.le_refl _, Nat.le_refl _, Nat.le_refl _, Nat.le_refl _⟩, hoff, ?_, rfl⟩
    intro i v pc L h' H locs hr hd hq hW' hS
    have hlocks := B.notSynchronized
    have hrt := B.returns
    have fin : ∀ t : State, t.heap = H → s.WarmedH t.vm → (∃ (v' : Option Value) (h' : AH), Outcome.returned (v.map (rl bb off)) = .returned (v'.map (rl bb off)) ∧ Q v' h' ∧ Wd bb off D K (n + a) h' t.heap) ∧ va_F (fun q => off ≤ q) s t := fun t ht _ => ⟨⟨v, h', rfl, hq, by rw [ht]; exact hW'⟩, hS.F ht⟩
    rcases hr with ⟨r1, rfl, z, rfl⟩ | ⟨r1, rfl, z, hz, rfl⟩ | ⟨r1, rfl, z, rfl⟩ | ⟨r1, rfl, rfl⟩ | ⟨⟨C, r1⟩, rfl, z, rfl⟩
    · exact W.iret B.exec B.bytes (hrt.trans r1) fin hS.2.2 hd
    · refine W.zret B.exec B.bytes (hrt.trans r1) ?_ fin hS.2.2 hd
      rcases hz with rfl | rfl <;> rfl
    · exact W.lret B.exec B.bytes (hrt.trans r1) fin hS.2.2 hd
    · exact W.vret B.exec B.bytes (hrt.trans r1) fin hS.2.2 hd
    · refine W.aret B.exec B.bytes (hrt.trans r1) (Or.inl ⟨C, rfl⟩) (Or.inr ?_) fin hS.2.2 hd
      unfold Vr rl
      cases (z + 1).toNat <;> exact ⟨_, rfl⟩
section GW2
variable {own : String} {b : ByteArray} {mL : Nat} {rt : Option FieldType} {isI : Bool} {d a n0 : Nat} {Q : Option Value → AH → Prop} {G : Nat → List (Option Value) → List Value → Nat → AH → Prop}
variable {pc q tgt : Nat} {st : List Value} {ls : List (Option Value)} {n : Nat} {h : AH}
theorem gx_ldcw (hG : Cx own b mL rt isI d a n0 Q G) {v : Int32} {idx : Nat} (z : Int) (hc : Cond.constant own idx v ∈ lw_tbl) (hd : decode b pc = .ok (.ldc_w idx, 3)) (hq : pc + 3 = q) (hz : v = Int32.ofInt z) (k : G q ls (Vi z :: st) n h) : G pc ls st n h := by
  obtain ⟨p, l, e, R, s, m, args, below, meth, c, D, K, bb, off, Z, hx, hb, hml, hown, hK, hI, hR, hof, hfin, rfl⟩ := hG
  subst hq
  intro h1 h2 H locs L hL hW hS
  subst hz
  exact lv_ldcw hx hb hown (hK.2.2 _ _ (gtb_in hc rfl)) hd (k h1 h2 H locs L hL hW hS)
end GW2
