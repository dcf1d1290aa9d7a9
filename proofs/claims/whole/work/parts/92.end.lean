/-! THE CLAIM OUT OF ONE WALK OF THE LAW'S BODY. Your part is whole_start (and what it stands on); all else here is the same for every law, but numbers. -/
def R_law : String := "WhoSaysOneLaw"
def lw_P (b : Addr) (xs : List Int32) (args : Array Value) (s : State) : Prop := args = #[.ref b] ∧ s.IntsAt b xs ∧ xs.length ≤ 3072 ∧ (Jvm.Cond.and given_1 narrow_1).before args s = true
def lw_Q (_ : Array Value) (s : State) (o : Outcome) (t : State) : Prop := o = .returned (some (.int 1)) ∧ Framed s o t [] 600000 7302249
def lw_Z (below : List Frame) (a : Array Value) (s : State) : State → Prop := fun t => ∃ o, t.status = .running ∧ Ended t below o ∧ lw_Q a s o t
/-- the law's own end, with 1 on the stack, nothing written that was there before, its room as the claim has it -/
theorem lw_ret {p : Program} {l : Launch} {e : Env} {s : State} {m : MethodId} {below : List Frame} {meth : Method} {c : Code} {b : Nat} (hx : p.tables.exec = Jvm.exec) (hb : c.code = code) (hr : meth.sig.returnType = ret) (hlocks : meth.locks = false) {pc : Nat} {H : Heap} {ls : Array Slot} (hdg : decode code pc = .ok (.ireturn, 1)) : W p l e room_1 s m #[Value.ref b] below meth c H [] 600000 7302249 (lw_Z below #[Value.ref b] s) (F0 m pc ls [.int 1]) := by
  intro T hT X
  obtain ⟨fs, hret, hrun, hended, hW, hframe⟩ := X.leave (v := some (.int 1)) (hlocks := hlocks) (fun h => by rw [hr] at h; cases h)
  have hmeth' : T.vm.method? m = some meth := X.method'
  refine ⟨T.setFrames fs, ?_, .returned (some (.int 1)), hrun, hended, rfl, ⟨_, rfl⟩, hW, hframe⟩
  jvm_step X.here [X.here.top, hx, hb, hdg, hmeth', hr, ret, narrow_b1]
  (try refine ⟨rfl, ?_⟩); (try refine ⟨rfl, ?_⟩)
  first | (intro acts; rw [hret _ acts rfl rfl rfl]) | rw [hret _ _ rfl rfl rfl]
  exact Steps.refl _
/-- what holds at the law's entry: the machine, the code, the tables' words (any of lw_tbl by 'hts w (by decide +kernel)'), the script of L ints xs at the cell b, what the Statement gives of the start (any of its parts by flat_of_before) -/
def lw_At (p : Program) (s : State) (m : MethodId) (meth : Method) (c : Code) (b L : Nat) (xs : Nat → Int32) : Prop :=
  p.tables.exec = Jvm.exec ∧ c.code = code ∧ meth.sig.returnType = ret ∧ c.maxLocals = 4 ∧ s.vm.findClass R_law = some m.cls ∧ (∀ w ∈ lw_tbl, w.before #[Value.ref b] s = true) ∧ va_X b L xs s s.heap ∧ b < s.heap.size ∧ meth.locks = false ∧ (Jvm.Cond.and given_1 narrow_1).before #[Value.ref b] s = true
-- ===== YOUR PART BEGINS =====
theorem hp_none {w : Mem} {x : Int} (h : ¬ (0 ≤ x ∧ x < 102)) : hp w x = none := by
  have e : shp x = none := by
    unfold shp
    rcases Int.lt_or_le x 77 with c | c
    · repeat (first | rw [if_pos c] | rw [if_neg (by omega)])
    · repeat rw [if_neg (by omega)]
  rw [hp_obj e]
  unfold objC
  repeat rw [if_neg (by omega)]
theorem gx_tail2 {own : String} {b : ByteArray} {mL : Nat} {rt : Option FieldType} {isI : Bool} {d a n0 : Nat} {Q : Option Value → AH → Prop} {G : Nat → List (Option Value) → List Value → Nat → AH → Prop} {pc : Nat} {st : List Value} {ls : List (Option Value)} {n : Nat} {h h' : AH} (hG : Cx own b mL rt isI d a n0 Q G) (e : ∀ k : Nat, k < n → agr (h k) (h' k)) (e2 : ∀ x : Int, ¬ (0 ≤ x ∧ x < n) → h' x = none) (k : G pc ls st n h') : G pc ls st n h := by
  obtain ⟨p, l, e0, R, s, m, args, below, meth, c, D, K, bb, off, Z, hx, hb, hml, hown, hK, hI, hR, hof, hfin, rfl⟩ := hG
  intro h1 h2 H locs L hL hW hS
  refine k h1 h2 H locs L hL ⟨hW.1, fun i q hq => ?_, fun x => ?_⟩ hS
  · obtain ⟨hk1, rfl⟩ := wld_some hq
    have hp0 := hW.2.1 i _ (wld_get hk1)
    rcases e i hk1 with g | ⟨t, N, F, F', g1, g2, g3⟩
    · rw [g] at hp0
      exact hp0
    · rw [g1] at hp0
      rw [g2]
      have hp1 : H[i + off]? = some (vp_cell (K t) (N, cnt off t F)) := hp0
      show H[i + off]? = some (vp_cell (K t) (N, cnt off t F'))
      rw [← vpc_ext g3]
      exact hp1
  · by_cases hr : 0 ≤ x ∧ x < n
    · obtain ⟨i, rfl⟩ := Int.eq_ofNat_of_zero_le hr.1
      rw [← hW.2.2 (i : Int)]
      rcases e i (by omega) with g | ⟨t, N, F, F', g1, g2, g3⟩
      · rw [g]
      · rw [g1, g2]
        simp [cA]
    · rw [e2 x hr]
      exact ⟨fun q => absurd rfl q, fun q => absurd q hr⟩
theorem law_all {Q : Option Value → AH → Prop} {G : Nat → List (Option Value) → List Value → Nat → AH → Prop} (hG : Cx "WhoSaysOneLaw" code 4 (some .boolean) false 60 102 0 Q G) (hQ : ∀ h, Q (some (Vi 1)) h) {L : Nat} (hL : L ≤ 3072) {xs : Nat → Int32}
    (hSl : ∀ {pc q n : Nat} {ls : List (Option Value)} {st : List Value} {h : AH}, decode code pc = .ok (.arraylength, 1) → pc + 1 = q → G q ls (Vi (L : Int) :: st) n h → G pc ls (Vr (-1) :: st) n h)
    (hSd : ∀ {pc q n : Nat} {ls : List (Option Value)} {st : List Value} {h : AH} {i : Int}, decode code pc = .ok (.iaload, 1) → pc + 1 = q → 0 ≤ i → i < (L : Int) → G q ls (Vi ((xs i.toNat).toInt) :: st) n h → G pc ls (Vi i :: Vr (-1) :: st) n h) :
    G 0 [some (Vr (-1)), none, none, none] [] 0 (fun _ => none) := by
  refine gx_new (q := 3) hG a_L_7 (by decide) d_L_law_0 rfl ?_
  refine gx_dupa (q := 4) hG d_L_law_3 rfl ?_
  refine gx_callI (rt' := none) (As := []) (q := 7) hG l_L_9 rfl c_X_init ev_X_init rfl (by decide) (Nat.le_of_ble_eq_true rfl) (Nat.le_of_ble_eq_true rfl) rfl d_L_law_4 rfl (fun v1 h1 z1 => ?_)
  obtain ⟨rfl, z1⟩ := z1
  refine gx_astore1 (q := 8) hG d_L_law_7 rfl rfl ?_
  refine gx_new (q := 11) hG a_L_10 (by decide) d_L_law_8 rfl ?_
  refine gx_dupa (q := 12) hG d_L_law_11 rfl ?_
  refine gx_callI (rt' := none) (As := []) (q := 15) hG l_L_12 rfl c_M_init (ev_M_init rfl) rfl (by decide) (Nat.le_of_ble_eq_true rfl) (Nat.le_of_ble_eq_true rfl) rfl d_L_law_12 rfl (fun v2 h2 z2 => ?_)
  obtain ⟨rfl, y1, y2⟩ := z2
  refine gx_astore2 (q := 16) hG d_L_law_15 rfl rfl ?_
  refine gx_iconst (q := 17) hG d_L_law_16 rfl ?_
  refine gx_istore3 (q := 18) hG d_L_law_17 rfl rfl ?_
  refine gx_tail2 (n := 102) (h' := hp w0) hG (fun k hk => ?_) (fun x hx => hp_none hx) (law_loop hG hQ hL hSl hSd 513 0 w0 inv0 (by decide) (by decide) (by omega))
  by_cases c : k < 76
  · rw [y2 k c]
    have := z1 k c
    rw [hset_ne (by omega)]
    exact this
  · have := y1 (k - 76) (by omega)
    rw [show k - 76 + 76 = k by omega] at this
    exact this
theorem whole_start {p : Program} {e : Env} {s : State} {m : MethodId} {below : List Frame} {meth : Method} {c : Code} (l : Launch) (hflags : l.flags = flags0) {b L : Nat} {xs : Nat → Int32} (hL : L ≤ 3072) (C0 : lw_At p s m meth c b L xs) : W p l e room_1 s m #[Value.ref b] below meth c s.heap [] 0 0 (lw_Z below #[Value.ref b] s) (entryFrame m ([Value.ref b] : List Value).toArray 4) := by
  obtain ⟨hx, hcode, hret, hml, hown, hts, hX, hbl, hlocks, hgv⟩ := C0
  obtain ⟨D, K, hKK⟩ := KK_start hts hgv
  have hG : Cx "WhoSaysOneLaw" code 4 (some .boolean) false 60 102 0 (fun v _ => v = some (Vi 1)) (fun pc ls st n h => 0 ≤ n → n ≤ 0 + 102 → ∀ (H : Heap) (locs : List Loc) (L9 : Array Slot), Lh (rl b s.heap.size) L9 4 ls → Wd b s.heap.size D K n h H → va_S (fun q => s.heap.size ≤ q) s.heap H locs → W p l e room_1 s m #[Value.ref b] below meth c H locs (n - 0) (16500 * (n - 0)) (lw_Z below #[Value.ref b] s) (F0 m pc L9 (st.map (rl b s.heap.size)))) := by
    refine ⟨p, l, e, room_1, s, m, #[Value.ref b], below, meth, c, D, K, b, s.heap.size, lw_Z below #[Value.ref b] s, hx, hcode, hml, hown, hKK, nofun, ⟨by decide, by decide, by decide, by decide⟩, Nat.le_refl _, ?_, rfl⟩
    intro i v pc L9 h H locs hr hd hq hW hS
    subst hq
    have hi : i = .ireturn := by
      rcases hr with ⟨r1, -⟩ | ⟨-, rfl, -⟩ | ⟨r1, -⟩ | ⟨r1, -⟩ | ⟨⟨C, r1⟩, -⟩
      · cases r1
      · rfl
      · cases r1
      · cases r1
      · cases r1
    subst hi
    exact va_forget (fun q hq => hS.2.2 q hq) (W.widen (by decide) (by decide) (lw_ret hx hcode hret hlocks hd))
  have key := law_all hG (fun _ => rfl) hL (xs := xs)
    (fun {pc q n ls st h} hd hq k => by
      subst hq
      intro h1 h2 H locs L9 hL9 hW hS
      exact va_slen hx hcode hX hbl (by omega) hS hd (k h1 h2 H locs L9 hL9 hW hS))
    (fun {pc q n ls st h i} hd hq h0 hi k => by
      subst hq
      intro h1 h2 H locs L9 hL9 hW hS
      have hcl := i3_clamp (i := i) (by omega) (by omega)
      have e1 : (Int32.ofInt i).toNatClampNeg = i.toNat := by omega
      have hin : vp_in (Int32.ofInt i) L := by
        intro q
        rcases q with q | q
        · rw [← i3_zero, i3_lt ⟨by omega, by omega⟩ ⟨by omega, by omega⟩] at q
          omega
        · omega
      have k' := k h1 h2 H locs L9 hL9 hW hS
      have e2 : Vi ((xs i.toNat).toInt) = .int (xs (Int32.ofInt i).toNatClampNeg) := by
        unfold Vi
        rw [Int32.ofInt_toInt, e1]
      rw [e2] at k'
      exact va_sld hx hcode hX hbl (by omega) hS hin hd k')
  have hl0 := lv_entry (([Vr (-1)] : List Value).map (rl b s.heap.size)) (n := 4) (Nat.le_of_ble_eq_true rfl)
  have hW0 : Wd b s.heap.size D K 0 (fun _ => none) s.heap := ⟨by omega, fun i q hq => by simp [wld] at hq, fun a => by
    constructor
    · intro q
      exact absurd rfl q
    · intro q
      omega⟩
  have e0 := key (Nat.le_refl _) (by decide) s.heap [] _ ⟨⟨hl0.1, hl0.2.1, by
    show ∀ q ∈ asc (rl b s.heap.size) 0 (ent [Vr (-1)] ++ List.replicate 3 none), _
    rw [ent_pad, ← lv_args_ent _ rl_cat]
    exact hl0.2.2⟩, by simp⟩ hW0 va_S.rf
  rw [lg_entry_eq]
  exact e0
-- ===== YOUR PART ENDS =====
set_option maxHeartbeats 4000000 in
theorem lw_walk (l : Launch) (hflags : l.flags = flags0) (b : Addr) (xs : List Int32) : MetFree l x (headSpec (Jvm.Cond.code x code maxLocals ret :: tables_1) room_1) (lw_P b xs) (fun _ _ _ _ _ => True) lw_Q := by
  refine MetFree.of_bodyS (code := code) (maxLocals := maxLocals) (ret := ret) (by decide) ?_ ?_
  · intro args s m h hn
    obtain ⟨meth, c, h1, h2, h3, h4, h5, h6, -, -⟩ := Cond.code_spec hn (atoms_spec (ws := Jvm.Cond.code x code maxLocals ret :: tables_1) h _ List.mem_cons_self)
    exact ⟨meth, c, h1, h2, h3, h4, h5, h6⟩
  · intro p e s m args below meth c s₁ B hml0 hP _
    obtain ⟨rfl, hx, hbd, hgv⟩ := hP
    obtain ⟨scr, harrAt, hlist, hof, hsmall⟩ := hx
    obtain ⟨hcb, hkn, -, -⟩ := State.arrayAt?_spec harrAt
    have hown : s.vm.findClass R_law = some m.cls := findClass_of_methodNamed B.named
    have hts0 : ∀ c ∈ (Jvm.Cond.code x code maxLocals ret :: tables_1), c.before #[Value.ref b] s = true := atoms_spec (ws := Jvm.Cond.code x code maxLocals ret :: tables_1) B.pre
    have hts : ∀ w ∈ lw_tbl, w.before #[Value.ref b] s = true := k2_hts_sels lw_privs (fun w hw => hts0 w (List.mem_cons_of_mem _ hw)) lw_privs_ok
    have hml : c.maxLocals = 4 := B.maxLocals_eq (hts0 _ List.mem_cons_self)
    have X₀ : Stand p l e room_1 s m #[Value.ref b] below meth c s₁ [] 0 0 := Stand.of_body B
    have hh0 : s₁.heap = s.heap := by rw [B.state]; rfl
    have hsz : scr.slots.size = xs.length := by rw [← Array.length_toList, hlist, List.length_map]
    have hval : ∀ j : Nat, j < xs.length → scr.slots[j]? = some (.int (xs.getD j 0)) := fun j hj => by
      rw [← Array.getElem?_toList, hlist]
      simp [hj]
    have hbl : b < s.heap.size := (Array.getElem?_eq_some_iff.mp hcb).1
    have hX : va_X b xs.length (fun j => xs.getD j 0) s s.heap := ⟨scr, hcb, hof, hkn, hsz, hval⟩
    have K : W p l e room_1 s m #[Value.ref b] below meth c s₁.heap [] 0 0 (lw_Z below #[Value.ref b] s) (entryFrame m ([Value.ref b] : List Value).toArray 4) := by
      rw [hh0]
      exact whole_start l hflags hbd ⟨B.exec, B.bytes, B.returns, hml, hown, hts, hX, hbl, B.notSynchronized, hgv⟩
    obtain ⟨t, a1, o, b1, b2, b3⟩ := K s₁ rfl X₀
    exact ⟨t, o, a1, b1, b2, b3⟩
theorem lw_pre_spec {args : Array Value} {s : State} (h : (Jvm.Cond.and given_1 narrow_1).before args s = true) (hr : rest_1_c.before args s = true) : ∃ (b : Addr) (xs : List Int32), lw_P b xs args s := by
  have hs := flat_of_before _ h
  have hq := flat_of_before _ hr
  have hc : (Cond.count 1).before args s = true := hs _ (by decide +kernel)
  have harr : (Cond.arrayOf (.arg 0) .int).before args s = true := hs _ (by decide +kernel)
  have hle : (Cond.le (.length (.arg 0)) (.int 3072)).before args s = true := hs _ (by decide +kernel)
  have hlen : (Cond.isInt (.length (.arg 0))).before args s = true := hq _ (by decide +kernel)
  have hall : (Cond.all (.arg 0) (.isInt (.elem (.arg 0) (.index 0)))).before args s = true := hq _ (by decide +kernel)
  obtain ⟨b, xs, hb, hx⟩ := State.ints_of_pre rfl harr hlen hall
  have hsm : xs.length < 2 ^ 31 := hx.choose_spec.2.2.2
  have hev : (Term.length (.arg 0)).eval args s none [] s = some (.int xs.length.toInt32) := hx.length_eval hb
  have hv := Cond.le_ints hev (show (Term.int 3072).eval args s none [] s = some (.int 3072) from rfl)
  have hd : xs.length.toInt32 ≤ 3072 := by
    simpa [Cond.before, Cond.holds, hv] using hle
  have hN : xs.length ≤ 3072 := (Int32.ofNat_le_ofNat hsm (by decide)).mp (show Int32.ofNat xs.length ≤ Int32.ofNat 3072 from hd)
  exact ⟨b, xs, Cond.one_arg hc (show args[0]? = some (.ref b) from hb), hx, hN, h⟩
theorem lw_comes (l : Launch) (hflags : l.flags = flags0) : Comes l x (Jvm.Cond.code x code maxLocals ret :: tables_1) room_1 (fun tb e args s => Calls_1 tb e args s ∧ rest_1 tb e args s ∧ Pre_1 tb e args s)
    (fun _ _ args s o t => lw_Q args s o t) := by
  intro p e ha hc hk s m args below hf hfit hheap happ hpre
  obtain ⟨b, xs, hP⟩ := lw_pre_spec hpre.2.2 hpre.2.1
  obtain ⟨k, o, h1, h2, h3, hQ⟩ := lw_walk l hflags b xs p e ha hc hk s m args below hf ((Spec.applies_iff_loose hf).mp happ).1 hP trivial
  exact ⟨k, o, h1, h2, h3, hQ⟩
theorem lw_frame {s t : State} {o : Outcome} {args : Array Value} (h : Framed s o t [] 600000 7302249) :
    Framed s o t (fieldLocs frame_1_writes args s ++ arrayLocs frame_1_arrays args s ++ staticLocs frame_1_statics s) 600000 7302249 := h
theorem lw_limb (L : Cond) (hL : ∀ (args : Array Value) (s t : State), L.after args s (.returned (some (.int 1))) t = true) :
    ArmFor flags0 classFile x code maxLocals ret World_1 tables_1 room_1 Calls_1 rest_1 Pre_1
      (fun tb e a s o t => postC L tb e a s o t ∧ Framed s o t (fieldLocs frame_1_writes a s ++ arrayLocs frame_1_arrays a s ++ staticLocs frame_1_statics s) 600000 7302249) := by
  intro l hflags _ _ p e ha hc hk s m args below hf hfit hheap happ hpre
  obtain ⟨k, o, h1, h2, h3, rfl, hF⟩ := lw_comes l hflags p e ha hc hk s m args below hf hfit hheap happ hpre
  exact ⟨k, _, h1, h2, h3, hL args s _, lw_frame hF⟩
theorem i_vc : Claimed_1_1 ∧ Claimed_1_2 := ⟨lw_limb limb_1_1 (fun args s t => by simp [limb_1_1, Cond.after, Cond.holds, Cond.value]), lw_limb limb_1_2 (fun args s t => Cond.after_iff.mpr (by
  first | (rw [show limb_1_2 = Cond.eq .result (.int 1) from rfl, Cond.eq_ints (x := 1) (y := 1) rfl rfl]; simp; done) | (simp [limb_1_2, Cond.value, Term.eval]; done)))⟩
