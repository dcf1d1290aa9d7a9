/-! part 86: the later calls leave a state that calls can come to -/
theorem OK_fr1 {s : Sta} {u : Int} (h : OK s) : OK (fr1 s u) := h
theorem OK_fr2 {s : Sta} {u v : Int} (h : OK s) : OK (ss (ss s 4 4 u) 4 5 v) := h
theorem flF_bd {P : Int → Prop} : ∀ (N : Nat) (i : Int), 0 ≤ flF P N i ∧ flF P N i ≤ N
  | 0, i => ⟨Int.le_refl 0, Int.le_refl 0⟩
  | k + 1, i => by
    have h := flF_bd (P := P) k i
    unfold flF
    split
    · unfold up
      split <;> omega
    · omega
theorem OK_fl {s : Sta} {r : Int} {P : Int → Prop} {N : Nat} (h : OK s) (hN : N ≤ 4000) : OK (flS s r P N) := by
  have hc := cn_bd (P := P) N
  refine OK_rs ?_ (by omega)
  refine ⟨h.1, fun q q0 q1 => ?_, h.2.2⟩
  unfold sr
  split
  · have := flF_bd (P := P) N (q - 60 * r)
    show R3 (flF P N (q - 60 * r))
    omega
  · exact h.2.1 q q0 q1
theorem OK.had {s : Sta} {v : Int} (h : OK s) : OK (sp_had s v).2 := by
  unfold sp_had
  split
  · exact h
  · exact OK_aside h
theorem OK.ways {s : Sta} {v : Int} (h : OK s) : OK (sp_ways s v).2 := by
  unfold sp_ways
  split
  · exact h
  · split
    · exact h
    · exact OK_fr1 h
theorem OK.byJust {s : Sta} {v k : Int} (h : OK s) : OK (sp_byJust s v k).2 := by
  unfold sp_byJust
  split
  · exact h
  · split
    · exact h
    · exact OK_fr1 h
theorem OK.needed {s : Sta} (h : OK s) : OK (sp_needed s).2 := OK_aside h
theorem OK.greatest {s : Sta} (h : OK s) : OK (sp_greatest s).2 := by
  unfold sp_greatest
  split
  · exact OK_fd h
  · exact OK_aside h
theorem OK.from' {s : Sta} (h : OK s) : OK (sp_from s).2 := h
theorem OK.gaps {s : Sta} {r : Int} (h : OK s) : OK (sp_gaps s r).2 := by
  unfold sp_gaps
  split
  · exact h
  · split
    · exact OK_fd h
    · exact OK_fl h (by decide)
theorem OK.rest {s : Sta} {m i : Int} (h : OK s) : OK (sp_rest s m i).2 := by
  unfold sp_rest
  split
  · exact h
  · split
    · exact h
    · exact h
theorem OK.wish {s : Sta} {v : Int} (h : OK s) : OK (sp_wish s v).2 := by
  unfold sp_wish
  split
  · exact h
  · split
    · exact h
    · show OK (if 0 < cn (wishP s v) 60 then ss s 4 3 (cn (wishP s v) 60) else s)
      split
      · exact OK_aside h
      · exact h
theorem OK.list {s : Sta} {r : Int} (h : OK s) : OK (sp_list s r).2 := by
  unfold sp_list
  split
  · exact h
  · split
    · exact OK_fd h
    · split
      · exact OK_fd h
      · exact OK_aside h
theorem OK.makes {s : Sta} {r t : Int} (h : OK s) : OK (sp_makes s r t).2 := by
  unfold sp_makes
  split
  · exact h
  · split
    · exact OK_fd h
    · split
      · exact OK_fd h
      · exact OK_fl h (by decide)
theorem OK.tree {s : Sta} {n f : Int} (h : OK s) : OK (sp_tree s n f).2 := by
  unfold sp_tree
  split
  · exact h
  · exact OK_aside (OK_fr1 h)
theorem OK.whose {s : Sta} (h : OK s) : OK (sp_whose s).2 := by
  unfold sp_whose
  split
  · exact h
  · exact OK_aside h
theorem OK.best {s : Sta} {r : Int} (h : OK s) : OK (sp_best s r).2 := by
  unfold sp_best
  split
  · exact h
  · split
    · exact h
    · exact OK_fl h (by decide)
theorem OK.lasts {s : Sta} (h : OK s) : OK (sp_lasts s).2 := by
  unfold sp_lasts
  split
  · exact h
  · exact OK_aside h
theorem OK.share {s : Sta} (h : OK s) : OK (sp_share s).2 := by
  unfold sp_share
  split
  · exact h
  · exact OK_fr2 h
theorem OK.says {s : Sta} {p : Int} (h : OK s) : OK (sp_says s p).2 := by
  unfold sp_says
  split
  · exact h
  · split
    · exact h
    · exact h
theorem OK.mark {s : Sta} {p a : Int} (h : OK s) : OK (sp_mark s p a).2 := by
  unfold sp_mark
  split
  · exact h
  · split
    · exact OK_fd h
    · exact h
theorem OK_pl : ∀ (j : Nat) (s : Sta) (lot : Int), OK s → OK (plF j s lot).2
  | 0, s, lot, h => h
  | j + 1, s, lot, h => by
    unfold plF
    split
    · exact h
    · rename_i c
      have ho : ¬ overS s := fun q => c (Or.inr (bi_t q))
      have hs : s 4 1 < 12 := by
        rcases Int.lt_or_le (s 4 1) 12 with d | d
        · exact d
        · exact absurd (Or.inl d) c
      have hb := saysS_bd (s := s) (kd := s 6 (s 4 1 % 2)) (lot := lotN (s 6 (s 4 1 % 2)) lot) h
      exact OK_pl j _ _ (OK.say h hb ho (by omega)).2
theorem OK.play {s : Sta} {m d : Int} (h : OK s) : OK (sp_play s m d).2 := by
  unfold sp_play
  split
  · exact h
  · split
    · exact h
    · exact OK_pl _ _ _ h
theorem OK.fault {s : Sta} {t : Int} (h : OK s) : OK (sp_fault s t).2 := by
  unfold sp_fault
  split
  · exact h
  · split
    · exact OK_fd h
    · exact h
theorem pRun_PB {s : Sta} {t : Int} : ∀ (j : Nat) (f : Int) (p : Ps), PB p → s 2 t ≤ 60 → PB (pRun s t j f p).2
  | 0, _, p, h, _ => h
  | j + 1, f, p, h, hs => by
    by_cases c1 : s 2 t ≤ p.pos
    · rw [pr_end c1]; exact h
    · by_cases c2 : byS s t p.pos = 32
      · rw [pr_bl (by omega) c2]
        have := h.1
        exact pRun_PB j f _ ⟨⟨by show 0 ≤ p.pos + 1; omega, by show p.pos + 1 ≤ 62; omega⟩, h.2⟩ hs
      · have hb := PB_item (s := s) (t := t) (f := f) h (by omega)
        by_cases c3 : (pItem s t f p).1 = 1
        · rw [pr_1 (by omega) c2 c3]
          exact pRun_PB j 0 _ hb hs
        · rw [pr_no (by omega) c2 c3]
          exact hb
theorem OK_gm {s : Sta} {p : Ps} (h : OK s) (hp : PB p) : OK (gmS s p) := by
  obtain ⟨a1, a2, a3, a4, a5, a6⟩ := hp
  refine ⟨h.1, h.2.1, h.2.2.1, h.2.2.2.1, a2, ⟨a3.1, by show p.n ≤ 13; omega⟩, a4, fun i i0 i1 => ?_, fun q q0 q1 => ?_, fun e => ?_, fun k k0 k1 => ?_⟩
  · have i1 : i < p.n := i1
    show 1 ≤ (if 0 ≤ i ∧ i < p.n then p.num i else 0) ∧ (if 0 ≤ i ∧ i < p.n then p.num i else 0) ≤ 60
    rw [if_pos ⟨i0, i1⟩]
    exact a5 i i0 i1
  · have q1 : q < p.pl := q1
    show 0 ≤ (if 0 ≤ q ∧ q < p.pl then p.kd q else 0) ∧ (if 0 ≤ q ∧ q < p.pl then p.kd q else 0) ≤ 5
    rw [if_pos ⟨q0, q1⟩]
    exact a6 q q0 q1
  · have e : p.n = 13 := e
    omega
  · have e8 : gmS s p 8 k = -1 := if_pos ⟨k0, k1⟩
    rw [e8]
    exact ⟨by decide, by decide, fun q => absurd q (by decide), fun i i0 i1 => by omega, fun q => absurd q (by decide)⟩
theorem OK.game {s : Sta} {t : Int} (h : OK s) : OK (sp_game s t).2 := by
  unfold sp_game
  split
  · exact h
  · rename_i c
    split
    · exact OK_fd h
    · split
      · exact h
      · exact OK_gm h (pRun_PB 60 1 p0 PB_0 (h.ts t (by omega) (by omega)).2)
