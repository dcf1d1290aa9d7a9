/-! part 52: the greatest divisor, on both sides -/
def comS (s : Sta) : Int := (gN (s 5) (s 4 1).toNat : Nat)
theorem ev_M_commonOf {w : Mem} {x : Int} {n N : Nat} (hs : shp x = some (0, N)) (hnN : n ≤ N) (hn14 : n ≤ 14) (hn : ∀ i : Int, 0 ≤ i → i < n → 1 ≤ w x i ∧ w x i ≤ 60) : EvX y_M_commonOf b_M_commonOf 5 (some .int) (2) [Vr 76, Vr x, Vi (n : Int)] w (Vi (gN (w x) n : Nat)) := by
  refine Ev.mk (isI := false) (by decide +kernel) nofun (Nat.le_of_ble_eq_true rfl) (fun G hG => ?_)
  show G 0 [some (Vr 76), some (Vr x), some (Vi (n : Int)), none, none] [] 102 (hp w)
  have hN := shp_le hs
  have L : ∀ (j i : Nat), i + j = n → G 5 [some (Vr 76), some (Vr x), some (Vi (n : Int)), some (Vi ((gN (w x) i : Nat) : Int)), some (Vi (i : Int))] [] 102 (hp w) := by
    intro j
    induction j with
    | zero =>
      intro i h1
      refine gx_iload4 (q := 7) hG d_M_commonOf_5 rfl ?_
      refine gx_iload2 (q := 8) hG d_M_commonOf_7 rfl ?_
      refine gx_icmp_ge (tgt := 26) (q := 11) hG d_M_commonOf_8 rfl rfl (by omega) (by omega) (fun c8 => ?_) (fun c8 => ?_)
      · refine gx_iload3 (q := 27) hG d_M_commonOf_26 rfl ?_
        refine gx_ireturn hG d_M_commonOf_27 rfl rfl ?_
        exact ⟨_, rfl, by rw [show i = n by omega], rfl⟩
      · exfalso; omega
    | succ j ih =>
      intro i h1
      have hi := hn i (by omega) (by omega)
      have hg := gN_le (num := w x) i (fun i2 i0 i1 => hn i2 i0 (by omega))
      obtain ⟨a, ha⟩ : ∃ a : Nat, w x i = (a : Int) := ⟨(w x i).toNat, by omega⟩
      rw [ha] at hi
      have eg : Nat.gcd (gN (w x) i) a = gN (w x) (i + 1) := by
        show _ = Nat.gcd (gN (w x) i) (w x i).toNat
        rw [ha]
        rfl
      refine gx_iload4 (q := 7) hG d_M_commonOf_5 rfl ?_
      refine gx_iload2 (q := 8) hG d_M_commonOf_7 rfl ?_
      refine gx_icmp_ge (tgt := 26) (q := 11) hG d_M_commonOf_8 rfl rfl (by omega) (by omega) (fun c8 => ?_) (fun c8 => ?_)
      · exfalso; omega
      · refine gx_iload3 (q := 12) hG d_M_commonOf_11 rfl ?_
        refine gx_aload1 (q := 13) hG d_M_commonOf_12 rfl ?_
        refine gx_iload4 (q := 15) hG d_M_commonOf_13 rfl ?_
        refine gw_iald (q := 16) hG hs (by omega) (by omega) d_M_commonOf_15 rfl ?_
        rw [ha]
        refine gw_S2X (q := 19) hG l_M_106 c_M_divisor (ev_M_divisor (by omega) (by omega)) (by decide) (Nat.le_of_ble_eq_true rfl) d_M_commonOf_16 rfl (by decide) ?_
        rw [eg]
        refine gx_istore3 (q := 20) hG d_M_commonOf_19 rfl rfl ?_
        refine gx_iinc4 (q := 23) hG d_M_commonOf_20 rfl rfl ?_
        refine gx_goto (tgt := 5) hG d_M_commonOf_23 rfl ?_
        exact ih (i + 1) (by omega)
  refine gx_iconst (q := 1) hG d_M_commonOf_0 rfl ?_
  refine gx_istore3 (q := 2) hG d_M_commonOf_1 rfl rfl ?_
  refine gx_iconst (q := 3) hG d_M_commonOf_2 rfl ?_
  refine gx_istore4 (q := 5) hG d_M_commonOf_3 rfl rfl ?_
  exact L n 0 (by omega)
theorem ev_M_common {w : Mem} (hO : OK (aM w)) : EvX y_M_common b_M_common 1 (some .int) (3) [Vr 76] w (Vi (comS (aM w))) := by
  refine Ev.mk (isI := false) (by decide +kernel) nofun (Nat.le_of_ble_eq_true rfl) (fun G hG => ?_)
  show G 0 [some (Vr 76)] [] 102 (hp w)
  have hn := hO.nn
  have e1 : aM w 4 1 = w 76 14 := rfl
  rw [e1] at hn
  obtain ⟨n, en⟩ : ∃ n : Nat, w 76 14 = (n : Int) := ⟨(w 76 14).toNat, by omega⟩
  refine gx_aload0 (q := 1) hG d_M_common_0 rfl ?_
  refine gx_aload0 (q := 2) hG d_M_common_1 rfl ?_
  refine gx_get (q := 5) hG f_M_35 hpM rfl d_M_common_2 rfl ?_
  refine gx_aload0 (q := 6) hG d_M_common_5 rfl ?_
  refine gx_get (q := 9) hG f_M_178 hpM rfl d_M_common_6 rfl ?_
  rw [en]
  refine gw_V2X (q := 12) hG l_M_206 c_M_commonOf (ev_M_commonOf (N := 14) rfl (by omega) (by omega) (fun i i0 i1 => hO.mn i i0 (by omega))) hpM rfl (by decide) (Nat.le_of_ble_eq_true rfl) d_M_common_9 rfl (by decide) ?_
  refine gx_ireturn hG d_M_common_12 rfl rfl ?_
  refine ⟨_, rfl, ?_, rfl⟩
  unfold comS
  rw [e1, en, gN_congr (num := w 85) (num' := aM w 5) n (fun i i0 i1 => (aM_at5 (by omega)).symm)]
  rfl
theorem ev_X_common {w : Mem} (hO : OK (aX w)) (hj : XJ w) : EvX y_X_common b_X_common 1 (some .int) (3) [Vr 0] w (Vi (comS (aX w))) := by
  refine Ev.mk (isI := false) (by decide +kernel) nofun (Nat.le_of_ble_eq_true rfl) (fun G hG => ?_)
  show G 0 [some (Vr 0)] [] 102 (hp w)
  have hg := hO.gi hj
  refine gx_aload0 (q := 1) hG d_X_common_0 rfl ?_
  refine gx_get (q := 4) hG f_X_21 hpX rfl d_X_common_1 rfl ?_
  refine gw_V0X (q := 7) hG l_X_213 c_Gm_divisor (ev_Gm_divisor hg.1 hg.2.1 hg.2.2.2.1) (hpGame (by unfold isG; omega)) rfl (by decide) (Nat.le_of_ble_eq_true rfl) d_X_common_4 rfl (by decide) ?_
  refine gx_ireturn hG d_X_common_7 rfl rfl ?_
  refine ⟨_, rfl, ?_, rfl⟩
  unfold comS
  rw [← gN_congr (num := w 4) (num' := aX w 5) (aX w 4 1).toNat (fun i i0 i1 => (aX_at5 ⟨i0, by have e : aX w 4 1 = w 3 1 := rfl; omega⟩).symm)]
  rfl

