/-! part 33: helps for the calls -/
section GH3
variable {own : String} {b : ByteArray} {mL : Nat} {rt : Option FieldType} {isI : Bool} {d a n0 : Nat} {Q : Option Value → AH → Prop} {G : Nat → List (Option Value) → List Value → Nat → AH → Prop}
variable {pc q tgt : Nat} {st : List Value} {ls : List (Option Value)} {n : Nat} {h : AH}
theorem gx_rald (hG : Cx own b mL rt isI d a n0 Q G) {x i B : Int} {t N : Nat} (hc : h x = cA t N (fun r => B + 2 * r)) (ht : 4 ≤ t ∧ t < 8) (hi0 : 0 ≤ i) (hi1 : i < N) (hN : N ≤ 2147483647) (hv : 0 ≤ B) (hd : decode b pc = .ok (.aaload, 1)) (hq : pc + 1 = q) (kk : G q ls (Vr (B + 2 * i) :: st) n h) : G pc ls (Vi i :: Vr x :: st) n h :=
  gx_aald hG hc ht hi0 hi1 hN (by show (0 : Int) ≤ B + 2 * i; omega) hd hq kk
theorem gx_fald (hG : Cx own b mL rt isI d a n0 Q G) {x i B : Int} {t N : Nat} (hc : h x = cA t N (fun r => B + r)) (ht : 4 ≤ t ∧ t < 8) (hi0 : 0 ≤ i) (hi1 : i < N) (hN : N ≤ 2147483647) (hv : 0 ≤ B) (hd : decode b pc = .ok (.aaload, 1)) (hq : pc + 1 = q) (kk : G q ls (Vr (B + i) :: st) n h) : G pc ls (Vi i :: Vr x :: st) n h :=
  gx_aald hG hc ht hi0 hi1 hN (by show (0 : Int) ≤ B + i; omega) hd hq kk
end GH3
theorem PX_mk {w w' : Mem} {s : Sta} {z : Int} (e : aX w' = s) (hj : XJ w) (hx : ∀ b, (b = 3 ∨ b = 4 ∨ b = 6 ∨ (46 ≤ b ∧ b ≤ 48) ∨ (70 ≤ b ∧ b < 76)) ∨ 76 ≤ b → w' b = w b) : PX w (z, s) z w' :=
  ⟨rfl, e, hj.ext (fun b hb => hx b (Or.inl hb)), fun b hb => hx b (Or.inr hb)⟩
theorem sr_cong {s : Sta} {c : Nat} {r : Int} {F F' : Int → Int} (h : ∀ i, 0 ≤ i → i < 60 → F i = F' i) : sr s c r F = sr s c r F' := by
  funext c' i'
  unfold sr
  split
  · exact h _ (by omega) (by omega)
  · rfl
theorem aX_cp {w : Mem} {r t i j n : Int} (hr : 0 ≤ r ∧ r < 6) (ht : 0 ≤ t ∧ t < 6) (hi : 0 ≤ i) (hj : 0 ≤ j) (hi1 : i + n ≤ 60) (hj1 : j + n ≤ 60) : aX (wc w (51 + 2 * t) (cpy (w (51 + 2 * r)) (w (51 + 2 * t)) i j n)) = sc (aX w) 1 (cpyS (aX w 1) (60 * r + i) (60 * t + j) n) := by
  rw [aX_rc ht]
  funext c' i'
  unfold sr sc cpy cpyS
  by_cases hc : c' = 1
  · subst hc
    rw [if_pos (c := (1 : Nat) = 1) rfl]
    show (if _ then _ else _) = (if _ then _ else _)
    by_cases h1 : 60 * t ≤ i' ∧ i' < 60 * t + 60
    · rw [if_pos ⟨rfl, h1.1, h1.2⟩]
      by_cases h2 : j ≤ i' - 60 * t ∧ i' - 60 * t < j + n
      · rw [if_pos h2, if_pos (by omega), ← aX_at1 (w := w) (i := i + (i' - 60 * t - j)) hr (by omega), show 60 * r + (i + (i' - 60 * t - j)) = 60 * r + i + (i' - (60 * t + j)) by omega]
      · rw [if_neg h2, if_neg (by omega), ← aX_at1 (w := w) (i := i' - 60 * t) ht (by omega), show 60 * t + (i' - 60 * t) = i' by omega]
    · rw [if_neg (fun q => h1 ⟨q.2.1, q.2.2⟩), if_neg (by omega)]
  · rw [if_neg (fun q => hc q.1), if_neg hc]
theorem smF_bd {F : Int → Int} {x : Int} : ∀ k : Nat, (∀ i : Int, 0 ≤ i → i < k → R3 (F (x + i))) → -2147483648 * k ≤ smF F x k ∧ smF F x k ≤ 2147483647 * k
  | 0, _ => by unfold smF; omega
  | k + 1, h => by
    have h1 := smF_bd k (fun i i0 i1 => h i i0 (by omega))
    have h2 := h k (by omega) (by omega)
    unfold smF
    omega
theorem ss_ss {s : Sta} {c c' : Nat} {i v i' v' : Int} (h : c ≠ c') : ss (ss s c' i' v') c i v = ss (ss s c i v) c' i' v' := by
  funext x j
  unfold ss
  by_cases h1 : x = c ∧ j = i
  · rw [if_pos h1, if_neg (fun q => h (h1.1.symm.trans q.1)), if_pos h1]
  · rw [if_neg h1, if_neg h1]
