/-! part 17: fields and arrays over the memory -/
theorem ite_le {p : Prop} [Decidable p] {A B : Option (Nat × Nat)} (hA : ∀ q, A = some q → q.2 ≤ 20000) (hB : ∀ q, B = some q → q.2 ≤ 20000) : ∀ q, (if p then A else B) = some q → q.2 ≤ 20000 := by
  intro q h
  by_cases hp : p
  · rw [if_pos hp] at h; exact hA q h
  · rw [if_neg hp] at h; exact hB q h
theorem shp_le0 (x : Int) : ∀ q, shp x = some q → q.2 ≤ 20000 := by
  unfold shp
  repeat' (apply ite_le)
  all_goals (intro q h; cases h)
  all_goals decide
theorem shp_le {x : Int} {t N : Nat} (h : shp x = some (t, N)) : N ≤ 2147483647 := by
  have : N ≤ 20000 := shp_le0 x _ h
  omega
section GH2
variable {own : String} {b : ByteArray} {mL : Nat} {rt : Option FieldType} {isI : Bool} {d a n0 : Nat} {Q : Option Value → AH → Prop} {G : Nat → List (Option Value) → List Value → Nat → AH → Prop}
variable {pc q tgt : Nat} {st : List Value} {ls : List (Option Value)} {w : Mem}
theorem gw_iald (hG : Cx own b mL rt isI d a n0 Q G) {x i : Int} {N : Nat} (hs : shp x = some (0, N)) (hi0 : 0 ≤ i) (hi1 : i < N) (hd : decode b pc = .ok (.iaload, 1)) (hq : pc + 1 = q) (kk : G q ls (Vi (w x i) :: st) 102 (hp w)) : G pc ls (Vi i :: Vr x :: st) 102 (hp w) :=
  gx_iald hG (hp_arr hs) hi0 hi1 (shp_le hs) hd hq kk
theorem gw_lald (hG : Cx own b mL rt isI d a n0 Q G) {x i : Int} {N : Nat} (hs : shp x = some (1, N)) (hi0 : 0 ≤ i) (hi1 : i < N) (hd : decode b pc = .ok (.laload, 1)) (hq : pc + 1 = q) (kk : G q ls (Vj (w x i) :: st) 102 (hp w)) : G pc ls (Vi i :: Vr x :: st) 102 (hp w) :=
  gx_lald hG (hp_arr hs) hi0 hi1 (shp_le hs) hd hq kk
theorem gw_bald (hG : Cx own b mL rt isI d a n0 Q G) {x i : Int} {N : Nat} (hs : shp x = some (2, N)) (hi0 : 0 ≤ i) (hi1 : i < N) (hd : decode b pc = .ok (.baload, 1)) (hq : pc + 1 = q) (kk : G q ls (Vi (w x i) :: st) 102 (hp w)) : G pc ls (Vi i :: Vr x :: st) 102 (hp w) :=
  gx_bald hG (hp_arr hs) hi0 hi1 (shp_le hs) hd hq kk
theorem gw_zald (hG : Cx own b mL rt isI d a n0 Q G) {x i : Int} {N : Nat} (hs : shp x = some (3, N)) (hi0 : 0 ≤ i) (hi1 : i < N) (hd : decode b pc = .ok (.baload, 1)) (hq : pc + 1 = q) (kk : G q ls (Vi (w x i) :: st) 102 (hp w)) : G pc ls (Vi i :: Vr x :: st) 102 (hp w) :=
  gx_zald hG (hp_arr hs) hi0 hi1 (shp_le hs) hd hq kk
theorem gw_iast (hG : Cx own b mL rt isI d a n0 Q G) {x i z : Int} {N : Nat} (hs : shp x = some (0, N)) (hi0 : 0 ≤ i) (hi1 : i < N) (hd : decode b pc = .ok (.iastore, 1)) (hq : pc + 1 = q) (kk : G q ls st 102 (hp (wu w x i z))) : G pc ls (Vi z :: Vi i :: Vr x :: st) 102 (hp w) :=
  gx_iast hG (hp_arr hs) hi0 hi1 (shp_le hs) hd hq (by rw [hp_arrU hs]; exact kk)
theorem gw_last (hG : Cx own b mL rt isI d a n0 Q G) {x i z : Int} {N : Nat} (hs : shp x = some (1, N)) (hi0 : 0 ≤ i) (hi1 : i < N) (hd : decode b pc = .ok (.lastore, 1)) (hq : pc + 1 = q) (kk : G q ls st 102 (hp (wu w x i z))) : G pc ls (Vj z :: Vi i :: Vr x :: st) 102 (hp w) :=
  gx_last hG (hp_arr hs) hi0 hi1 (shp_le hs) hd hq (by rw [hp_arrU hs]; exact kk)
theorem gw_bast (hG : Cx own b mL rt isI d a n0 Q G) {x i z : Int} {N : Nat} (hs : shp x = some (2, N)) (hi0 : 0 ≤ i) (hi1 : i < N) (hz : narrow .byte (.int (Int32.ofInt z)) = .int (Int32.ofInt z)) (hd : decode b pc = .ok (.bastore, 1)) (hq : pc + 1 = q) (kk : G q ls st 102 (hp (wu w x i z))) : G pc ls (Vi z :: Vi i :: Vr x :: st) 102 (hp w) :=
  gx_bast hG (hp_arr hs) hi0 hi1 (shp_le hs) hz hd hq (by rw [hp_arrU hs]; exact kk)
theorem gw_zast (hG : Cx own b mL rt isI d a n0 Q G) {x i z : Int} {N : Nat} (hs : shp x = some (3, N)) (hi0 : 0 ≤ i) (hi1 : i < N) (hz : z = 0 ∨ z = 1) (hd : decode b pc = .ok (.bastore, 1)) (hq : pc + 1 = q) (kk : G q ls st 102 (hp (wu w x i z))) : G pc ls (Vi z :: Vi i :: Vr x :: st) 102 (hp w) :=
  gx_zast hG (hp_arr hs) hi0 hi1 (shp_le hs) hz hd hq (by rw [hp_arrU hs]; exact kk)
theorem gw_alen (hG : Cx own b mL rt isI d a n0 Q G) {x : Int} {t N : Nat} (hs : shp x = some (t, N)) (ht : t < 8) (hd : decode b pc = .ok (.arraylength, 1)) (hq : pc + 1 = q) (kk : G q ls (Vi N :: st) 102 (hp w)) : G pc ls (Vr x :: st) 102 (hp w) := gx_alen hG (hp_arr hs) ht hd hq kk
theorem gw_puti (hG : Cx own b mL rt isI d a n0 Q G) {idx ci k : Nat} {ty : FieldType} {fin : Bool} (hF : Fld own idx ci k ty fin true) {x z : Int} {fs : List Value} (hc : hp w x = cO ci fs) (hk : k < fs.length) (hv : vfit ty (Vi z)) (hfi : fin = false ∨ isI = true) (hd : decode b pc = .ok (.putfield idx, 3)) (hq : pc + 3 = q) (k' : Int) (hk' : (k : Int) = k') (hu : cO ci (fs.set k (Vi z)) = hp (wu w x k' z) x) (kk : G q ls st 102 (hp (wu w x k' z))) : G pc ls (Vi z :: Vr x :: st) 102 (hp w) :=
  gx_put hG hF hc hk hv hfi hd hq (by rw [hp_objU hu]; exact kk)
theorem gw_putj (hG : Cx own b mL rt isI d a n0 Q G) {idx ci k : Nat} {ty : FieldType} {fin : Bool} (hF : Fld own idx ci k ty fin true) {x z : Int} {fs : List Value} (hc : hp w x = cO ci fs) (hk : k < fs.length) (hv : vfit ty (Vj z)) (hfi : fin = false ∨ isI = true) (hd : decode b pc = .ok (.putfield idx, 3)) (hq : pc + 3 = q) (k' : Int) (hk' : (k : Int) = k') (hu : cO ci (fs.set k (Vj z)) = hp (wu w x k' z) x) (kk : G q ls st 102 (hp (wu w x k' z))) : G pc ls (Vj z :: Vr x :: st) 102 (hp w) :=
  gx_put hG hF hc hk hv hfi hd hq (by rw [hp_objU hu]; exact kk)
theorem gw_acopy (hG : Cx own b mL rt isI d a n0 Q G) {x y sp dp len : Int} {N M idx : Nat} (hl : Cond.methodLink own idx arraycopyName ∈ lw_tbl) (hs : shp x = some (0, N)) (hs' : shp y = some (0, M)) (g1 : 0 ≤ sp) (g2 : 0 ≤ dp) (g3 : 0 ≤ len) (g4 : sp + len ≤ N) (g5 : dp + len ≤ M) (hd0 : 1 ≤ d) (hst : (st.map fun v => v.category).sum ≤ 8) (hd : decode b pc = .ok (.invokestatic idx, 3)) (hq : pc + 3 = q)
    (k : G q ls st 102 (hp (wc w y (cpy (w x) (w y) sp dp len)))) : G pc ls (Vi len :: Vi dp :: Vr y :: Vi sp :: Vr x :: st) 102 (hp w) :=
  gx_acopy hG hl w_ac (hp_arr hs) (hp_arr hs') g1 g2 g3 g4 g5 (shp_le hs) (shp_le hs') hd0 hst hd hq (by rw [hp_arrC hs']; exact k)
end GH2
theorem hpGm1 {w : Mem} {a z : Int} (hg : isG a) : cO 2 [Vr (a + 1), Vi z, Vi (w a 2), Vj (w a 3)] = hp (wu w a 1 z) a := by rw [hpGame hg, wu_eq, wu_pl (by decide), wu_pl (by decide)]
theorem hpGm2 {w : Mem} {a z : Int} (hg : isG a) : cO 2 [Vr (a + 1), Vi (w a 1), Vi z, Vj (w a 3)] = hp (wu w a 2 z) a := by rw [hpGame hg, wu_eq, wu_pl (by decide), wu_pl (by decide)]
theorem hpGm3 {w : Mem} {a z : Int} (hg : isG a) : cO 2 [Vr (a + 1), Vi (w a 1), Vi (w a 2), Vj z] = hp (wu w a 3 z) a := by rw [hpGame hg, wu_eq, wu_pl (by decide), wu_pl (by decide)]
theorem hpRw1 {w : Mem} {a z : Int} (ha : 50 ≤ a ∧ a < 70 ∧ a % 2 = 0) : cO 1 [Vr (a + 1), Vi z] = hp (wu w a 1 z) a := by rw [hpRow ha, wu_eq]
