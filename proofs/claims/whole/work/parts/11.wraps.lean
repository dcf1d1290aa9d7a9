/-! part 11: calls over the memory, by arity and form: printed by wip/tool/gen_wraps.py -/
section GW
variable {own : String} {b : ByteArray} {mL : Nat} {rt : Option FieldType} {isI : Bool} {d a n0 : Nat} {Q : Option Value → AH → Prop} {G : Nat → List (Option Value) → List Value → Nat → AH → Prop}
variable {pc q tgt : Nat} {st : List Value} {ls : List (Option Value)} {w : Mem} {y : MethodName} {b' : ByteArray} {mL' : Nat} {rt' : Option FieldType} {d' idx : Nat}
theorem gw_S0X (hG : Cx own b mL rt isI d a n0 Q G) {v : Value} (lk : LkS own idx y) (lc : LkC y b' mL' rt' 0) (hE : EvX y b' mL' rt' d' [] w v) (hd' : d' < d) (hst : (st.map fun v => v.category).sum ≤ 8) (hd : decode b pc = .ok (.invokestatic idx, 3)) (hq : pc + 3 = q) (hn0 : 102 ≤ n0 + a) (k : G q ls (v :: st) 102 (hp w)) : G pc ls (st) 102 (hp w) := by
  refine gx_callS (As := []) hG lk lc hE hd' hn0 hst rfl hd hq (fun v h' z => ?_)
  obtain ⟨w', rfl, rfl, rfl⟩ := z
  exact k
theorem gw_S0I (hG : Cx own b mL rt isI d a n0 Q G) {P : Int → Mem → Prop} (lk : LkS own idx y) (lc : LkC y b' mL' rt' 0) (hE : EvI y b' mL' rt' d' [] w P) (hd' : d' < d) (hst : (st.map fun v => v.category).sum ≤ 8) (hd : decode b pc = .ok (.invokestatic idx, 3)) (hq : pc + 3 = q) (hn0 : 102 ≤ n0 + a) (k : ∀ (z : Int) (w' : Mem), P z w' → G q ls (Vi z :: st) 102 (hp w')) : G pc ls (st) 102 (hp w) := by
  refine gx_callS (As := []) hG lk lc hE hd' hn0 hst rfl hd hq (fun v h' z => ?_)
  obtain ⟨w', rfl, z, rfl, hz⟩ := z
  exact k _ _ hz
theorem gw_S0J (hG : Cx own b mL rt isI d a n0 Q G) {P : Int → Mem → Prop} (lk : LkS own idx y) (lc : LkC y b' mL' rt' 0) (hE : EvJ y b' mL' rt' d' [] w P) (hd' : d' < d) (hst : (st.map fun v => v.category).sum ≤ 8) (hd : decode b pc = .ok (.invokestatic idx, 3)) (hq : pc + 3 = q) (hn0 : 102 ≤ n0 + a) (k : ∀ (z : Int) (w' : Mem), P z w' → G q ls (Vj z :: st) 102 (hp w')) : G pc ls (st) 102 (hp w) := by
  refine gx_callS (As := []) hG lk lc hE hd' hn0 hst rfl hd hq (fun v h' z => ?_)
  obtain ⟨w', rfl, z, rfl, hz⟩ := z
  exact k _ _ hz
theorem gw_S0Y (hG : Cx own b mL rt isI d a n0 Q G) {P : Int → Prop} (lk : LkS own idx y) (lc : LkC y b' mL' rt' 0) (hE : EvY y b' mL' rt' d' [] w P) (hd' : d' < d) (hst : (st.map fun v => v.category).sum ≤ 8) (hd : decode b pc = .ok (.invokestatic idx, 3)) (hq : pc + 3 = q) (hn0 : 102 ≤ n0 + a) (k : ∀ z : Int, P z → G q ls (Vi z :: st) 102 (hp w)) : G pc ls (st) 102 (hp w) := by
  refine gx_callS (As := []) hG lk lc hE hd' hn0 hst rfl hd hq (fun v h' z => ?_)
  obtain ⟨w', rfl, z, rfl, rfl, hz⟩ := z
  exact k _ hz
theorem gw_S0Z (hG : Cx own b mL rt isI d a n0 Q G) {P : Int → Prop} (lk : LkS own idx y) (lc : LkC y b' mL' rt' 0) (hE : EvZ y b' mL' rt' d' [] w P) (hd' : d' < d) (hst : (st.map fun v => v.category).sum ≤ 8) (hd : decode b pc = .ok (.invokestatic idx, 3)) (hq : pc + 3 = q) (hn0 : 102 ≤ n0 + a) (k : ∀ z : Int, P z → G q ls (Vj z :: st) 102 (hp w)) : G pc ls (st) 102 (hp w) := by
  refine gx_callS (As := []) hG lk lc hE hd' hn0 hst rfl hd hq (fun v h' z => ?_)
  obtain ⟨w', rfl, z, rfl, rfl, hz⟩ := z
  exact k _ hz
theorem gw_S0V (hG : Cx own b mL rt isI d a n0 Q G) {P : Mem → Prop} (lk : LkS own idx y) (lc : LkC y b' mL' rt' 0) (hE : EvV y b' mL' rt' d' [] w P) (hd' : d' < d) (hst : (st.map fun v => v.category).sum ≤ 8) (hd : decode b pc = .ok (.invokestatic idx, 3)) (hq : pc + 3 = q) (hn0 : 102 ≤ n0 + a) (k : ∀ w' : Mem, P w' → G q ls st 102 (hp w')) : G pc ls (st) 102 (hp w) := by
  refine gx_callS (As := []) hG lk lc hE hd' hn0 hst rfl hd hq (fun v h' z => ?_)
  obtain ⟨w', rfl, rfl, hz⟩ := z
  exact k _ hz
theorem gw_S1X (hG : Cx own b mL rt isI d a n0 Q G) {u1 : Value} {v : Value} (lk : LkS own idx y) (lc : LkC y b' mL' rt' 1) (hE : EvX y b' mL' rt' d' [u1] w v) (hd' : d' < d) (hst : (st.map fun v => v.category).sum ≤ 8) (hd : decode b pc = .ok (.invokestatic idx, 3)) (hq : pc + 3 = q) (hn0 : 102 ≤ n0 + a) (k : G q ls (v :: st) 102 (hp w)) : G pc ls (u1 :: st) 102 (hp w) := by
  refine gx_callS (As := [u1]) hG lk lc hE hd' hn0 hst rfl hd hq (fun v h' z => ?_)
  obtain ⟨w', rfl, rfl, rfl⟩ := z
  exact k
theorem gw_S1I (hG : Cx own b mL rt isI d a n0 Q G) {u1 : Value} {P : Int → Mem → Prop} (lk : LkS own idx y) (lc : LkC y b' mL' rt' 1) (hE : EvI y b' mL' rt' d' [u1] w P) (hd' : d' < d) (hst : (st.map fun v => v.category).sum ≤ 8) (hd : decode b pc = .ok (.invokestatic idx, 3)) (hq : pc + 3 = q) (hn0 : 102 ≤ n0 + a) (k : ∀ (z : Int) (w' : Mem), P z w' → G q ls (Vi z :: st) 102 (hp w')) : G pc ls (u1 :: st) 102 (hp w) := by
  refine gx_callS (As := [u1]) hG lk lc hE hd' hn0 hst rfl hd hq (fun v h' z => ?_)
  obtain ⟨w', rfl, z, rfl, hz⟩ := z
  exact k _ _ hz
theorem gw_S1J (hG : Cx own b mL rt isI d a n0 Q G) {u1 : Value} {P : Int → Mem → Prop} (lk : LkS own idx y) (lc : LkC y b' mL' rt' 1) (hE : EvJ y b' mL' rt' d' [u1] w P) (hd' : d' < d) (hst : (st.map fun v => v.category).sum ≤ 8) (hd : decode b pc = .ok (.invokestatic idx, 3)) (hq : pc + 3 = q) (hn0 : 102 ≤ n0 + a) (k : ∀ (z : Int) (w' : Mem), P z w' → G q ls (Vj z :: st) 102 (hp w')) : G pc ls (u1 :: st) 102 (hp w) := by
  refine gx_callS (As := [u1]) hG lk lc hE hd' hn0 hst rfl hd hq (fun v h' z => ?_)
  obtain ⟨w', rfl, z, rfl, hz⟩ := z
  exact k _ _ hz
theorem gw_S1Y (hG : Cx own b mL rt isI d a n0 Q G) {u1 : Value} {P : Int → Prop} (lk : LkS own idx y) (lc : LkC y b' mL' rt' 1) (hE : EvY y b' mL' rt' d' [u1] w P) (hd' : d' < d) (hst : (st.map fun v => v.category).sum ≤ 8) (hd : decode b pc = .ok (.invokestatic idx, 3)) (hq : pc + 3 = q) (hn0 : 102 ≤ n0 + a) (k : ∀ z : Int, P z → G q ls (Vi z :: st) 102 (hp w)) : G pc ls (u1 :: st) 102 (hp w) := by
  refine gx_callS (As := [u1]) hG lk lc hE hd' hn0 hst rfl hd hq (fun v h' z => ?_)
  obtain ⟨w', rfl, z, rfl, rfl, hz⟩ := z
  exact k _ hz
theorem gw_S1Z (hG : Cx own b mL rt isI d a n0 Q G) {u1 : Value} {P : Int → Prop} (lk : LkS own idx y) (lc : LkC y b' mL' rt' 1) (hE : EvZ y b' mL' rt' d' [u1] w P) (hd' : d' < d) (hst : (st.map fun v => v.category).sum ≤ 8) (hd : decode b pc = .ok (.invokestatic idx, 3)) (hq : pc + 3 = q) (hn0 : 102 ≤ n0 + a) (k : ∀ z : Int, P z → G q ls (Vj z :: st) 102 (hp w)) : G pc ls (u1 :: st) 102 (hp w) := by
  refine gx_callS (As := [u1]) hG lk lc hE hd' hn0 hst rfl hd hq (fun v h' z => ?_)
  obtain ⟨w', rfl, z, rfl, rfl, hz⟩ := z
  exact k _ hz
theorem gw_S1V (hG : Cx own b mL rt isI d a n0 Q G) {u1 : Value} {P : Mem → Prop} (lk : LkS own idx y) (lc : LkC y b' mL' rt' 1) (hE : EvV y b' mL' rt' d' [u1] w P) (hd' : d' < d) (hst : (st.map fun v => v.category).sum ≤ 8) (hd : decode b pc = .ok (.invokestatic idx, 3)) (hq : pc + 3 = q) (hn0 : 102 ≤ n0 + a) (k : ∀ w' : Mem, P w' → G q ls st 102 (hp w')) : G pc ls (u1 :: st) 102 (hp w) := by
  refine gx_callS (As := [u1]) hG lk lc hE hd' hn0 hst rfl hd hq (fun v h' z => ?_)
  obtain ⟨w', rfl, rfl, hz⟩ := z
  exact k _ hz
theorem gw_S2X (hG : Cx own b mL rt isI d a n0 Q G) {u1 u2 : Value} {v : Value} (lk : LkS own idx y) (lc : LkC y b' mL' rt' 2) (hE : EvX y b' mL' rt' d' [u1, u2] w v) (hd' : d' < d) (hst : (st.map fun v => v.category).sum ≤ 8) (hd : decode b pc = .ok (.invokestatic idx, 3)) (hq : pc + 3 = q) (hn0 : 102 ≤ n0 + a) (k : G q ls (v :: st) 102 (hp w)) : G pc ls (u2 :: u1 :: st) 102 (hp w) := by
  refine gx_callS (As := [u1, u2]) hG lk lc hE hd' hn0 hst rfl hd hq (fun v h' z => ?_)
  obtain ⟨w', rfl, rfl, rfl⟩ := z
  exact k
theorem gw_S2I (hG : Cx own b mL rt isI d a n0 Q G) {u1 u2 : Value} {P : Int → Mem → Prop} (lk : LkS own idx y) (lc : LkC y b' mL' rt' 2) (hE : EvI y b' mL' rt' d' [u1, u2] w P) (hd' : d' < d) (hst : (st.map fun v => v.category).sum ≤ 8) (hd : decode b pc = .ok (.invokestatic idx, 3)) (hq : pc + 3 = q) (hn0 : 102 ≤ n0 + a) (k : ∀ (z : Int) (w' : Mem), P z w' → G q ls (Vi z :: st) 102 (hp w')) : G pc ls (u2 :: u1 :: st) 102 (hp w) := by
  refine gx_callS (As := [u1, u2]) hG lk lc hE hd' hn0 hst rfl hd hq (fun v h' z => ?_)
  obtain ⟨w', rfl, z, rfl, hz⟩ := z
  exact k _ _ hz
theorem gw_S2J (hG : Cx own b mL rt isI d a n0 Q G) {u1 u2 : Value} {P : Int → Mem → Prop} (lk : LkS own idx y) (lc : LkC y b' mL' rt' 2) (hE : EvJ y b' mL' rt' d' [u1, u2] w P) (hd' : d' < d) (hst : (st.map fun v => v.category).sum ≤ 8) (hd : decode b pc = .ok (.invokestatic idx, 3)) (hq : pc + 3 = q) (hn0 : 102 ≤ n0 + a) (k : ∀ (z : Int) (w' : Mem), P z w' → G q ls (Vj z :: st) 102 (hp w')) : G pc ls (u2 :: u1 :: st) 102 (hp w) := by
  refine gx_callS (As := [u1, u2]) hG lk lc hE hd' hn0 hst rfl hd hq (fun v h' z => ?_)
  obtain ⟨w', rfl, z, rfl, hz⟩ := z
  exact k _ _ hz
theorem gw_S2Y (hG : Cx own b mL rt isI d a n0 Q G) {u1 u2 : Value} {P : Int → Prop} (lk : LkS own idx y) (lc : LkC y b' mL' rt' 2) (hE : EvY y b' mL' rt' d' [u1, u2] w P) (hd' : d' < d) (hst : (st.map fun v => v.category).sum ≤ 8) (hd : decode b pc = .ok (.invokestatic idx, 3)) (hq : pc + 3 = q) (hn0 : 102 ≤ n0 + a) (k : ∀ z : Int, P z → G q ls (Vi z :: st) 102 (hp w)) : G pc ls (u2 :: u1 :: st) 102 (hp w) := by
  refine gx_callS (As := [u1, u2]) hG lk lc hE hd' hn0 hst rfl hd hq (fun v h' z => ?_)
  obtain ⟨w', rfl, z, rfl, rfl, hz⟩ := z
  exact k _ hz
theorem gw_S2Z (hG : Cx own b mL rt isI d a n0 Q G) {u1 u2 : Value} {P : Int → Prop} (lk : LkS own idx y) (lc : LkC y b' mL' rt' 2) (hE : EvZ y b' mL' rt' d' [u1, u2] w P) (hd' : d' < d) (hst : (st.map fun v => v.category).sum ≤ 8) (hd : decode b pc = .ok (.invokestatic idx, 3)) (hq : pc + 3 = q) (hn0 : 102 ≤ n0 + a) (k : ∀ z : Int, P z → G q ls (Vj z :: st) 102 (hp w)) : G pc ls (u2 :: u1 :: st) 102 (hp w) := by
  refine gx_callS (As := [u1, u2]) hG lk lc hE hd' hn0 hst rfl hd hq (fun v h' z => ?_)
  obtain ⟨w', rfl, z, rfl, rfl, hz⟩ := z
  exact k _ hz
theorem gw_S2V (hG : Cx own b mL rt isI d a n0 Q G) {u1 u2 : Value} {P : Mem → Prop} (lk : LkS own idx y) (lc : LkC y b' mL' rt' 2) (hE : EvV y b' mL' rt' d' [u1, u2] w P) (hd' : d' < d) (hst : (st.map fun v => v.category).sum ≤ 8) (hd : decode b pc = .ok (.invokestatic idx, 3)) (hq : pc + 3 = q) (hn0 : 102 ≤ n0 + a) (k : ∀ w' : Mem, P w' → G q ls st 102 (hp w')) : G pc ls (u2 :: u1 :: st) 102 (hp w) := by
  refine gx_callS (As := [u1, u2]) hG lk lc hE hd' hn0 hst rfl hd hq (fun v h' z => ?_)
  obtain ⟨w', rfl, rfl, hz⟩ := z
  exact k _ hz
theorem gw_S3X (hG : Cx own b mL rt isI d a n0 Q G) {u1 u2 u3 : Value} {v : Value} (lk : LkS own idx y) (lc : LkC y b' mL' rt' 3) (hE : EvX y b' mL' rt' d' [u1, u2, u3] w v) (hd' : d' < d) (hst : (st.map fun v => v.category).sum ≤ 8) (hd : decode b pc = .ok (.invokestatic idx, 3)) (hq : pc + 3 = q) (hn0 : 102 ≤ n0 + a) (k : G q ls (v :: st) 102 (hp w)) : G pc ls (u3 :: u2 :: u1 :: st) 102 (hp w) := by
  refine gx_callS (As := [u1, u2, u3]) hG lk lc hE hd' hn0 hst rfl hd hq (fun v h' z => ?_)
  obtain ⟨w', rfl, rfl, rfl⟩ := z
  exact k
theorem gw_S3I (hG : Cx own b mL rt isI d a n0 Q G) {u1 u2 u3 : Value} {P : Int → Mem → Prop} (lk : LkS own idx y) (lc : LkC y b' mL' rt' 3) (hE : EvI y b' mL' rt' d' [u1, u2, u3] w P) (hd' : d' < d) (hst : (st.map fun v => v.category).sum ≤ 8) (hd : decode b pc = .ok (.invokestatic idx, 3)) (hq : pc + 3 = q) (hn0 : 102 ≤ n0 + a) (k : ∀ (z : Int) (w' : Mem), P z w' → G q ls (Vi z :: st) 102 (hp w')) : G pc ls (u3 :: u2 :: u1 :: st) 102 (hp w) := by
  refine gx_callS (As := [u1, u2, u3]) hG lk lc hE hd' hn0 hst rfl hd hq (fun v h' z => ?_)
  obtain ⟨w', rfl, z, rfl, hz⟩ := z
  exact k _ _ hz
theorem gw_S3J (hG : Cx own b mL rt isI d a n0 Q G) {u1 u2 u3 : Value} {P : Int → Mem → Prop} (lk : LkS own idx y) (lc : LkC y b' mL' rt' 3) (hE : EvJ y b' mL' rt' d' [u1, u2, u3] w P) (hd' : d' < d) (hst : (st.map fun v => v.category).sum ≤ 8) (hd : decode b pc = .ok (.invokestatic idx, 3)) (hq : pc + 3 = q) (hn0 : 102 ≤ n0 + a) (k : ∀ (z : Int) (w' : Mem), P z w' → G q ls (Vj z :: st) 102 (hp w')) : G pc ls (u3 :: u2 :: u1 :: st) 102 (hp w) := by
  refine gx_callS (As := [u1, u2, u3]) hG lk lc hE hd' hn0 hst rfl hd hq (fun v h' z => ?_)
  obtain ⟨w', rfl, z, rfl, hz⟩ := z
  exact k _ _ hz
theorem gw_S3Y (hG : Cx own b mL rt isI d a n0 Q G) {u1 u2 u3 : Value} {P : Int → Prop} (lk : LkS own idx y) (lc : LkC y b' mL' rt' 3) (hE : EvY y b' mL' rt' d' [u1, u2, u3] w P) (hd' : d' < d) (hst : (st.map fun v => v.category).sum ≤ 8) (hd : decode b pc = .ok (.invokestatic idx, 3)) (hq : pc + 3 = q) (hn0 : 102 ≤ n0 + a) (k : ∀ z : Int, P z → G q ls (Vi z :: st) 102 (hp w)) : G pc ls (u3 :: u2 :: u1 :: st) 102 (hp w) := by
  refine gx_callS (As := [u1, u2, u3]) hG lk lc hE hd' hn0 hst rfl hd hq (fun v h' z => ?_)
  obtain ⟨w', rfl, z, rfl, rfl, hz⟩ := z
  exact k _ hz
theorem gw_S3Z (hG : Cx own b mL rt isI d a n0 Q G) {u1 u2 u3 : Value} {P : Int → Prop} (lk : LkS own idx y) (lc : LkC y b' mL' rt' 3) (hE : EvZ y b' mL' rt' d' [u1, u2, u3] w P) (hd' : d' < d) (hst : (st.map fun v => v.category).sum ≤ 8) (hd : decode b pc = .ok (.invokestatic idx, 3)) (hq : pc + 3 = q) (hn0 : 102 ≤ n0 + a) (k : ∀ z : Int, P z → G q ls (Vj z :: st) 102 (hp w)) : G pc ls (u3 :: u2 :: u1 :: st) 102 (hp w) := by
  refine gx_callS (As := [u1, u2, u3]) hG lk lc hE hd' hn0 hst rfl hd hq (fun v h' z => ?_)
  obtain ⟨w', rfl, z, rfl, rfl, hz⟩ := z
  exact k _ hz
theorem gw_S3V (hG : Cx own b mL rt isI d a n0 Q G) {u1 u2 u3 : Value} {P : Mem → Prop} (lk : LkS own idx y) (lc : LkC y b' mL' rt' 3) (hE : EvV y b' mL' rt' d' [u1, u2, u3] w P) (hd' : d' < d) (hst : (st.map fun v => v.category).sum ≤ 8) (hd : decode b pc = .ok (.invokestatic idx, 3)) (hq : pc + 3 = q) (hn0 : 102 ≤ n0 + a) (k : ∀ w' : Mem, P w' → G q ls st 102 (hp w')) : G pc ls (u3 :: u2 :: u1 :: st) 102 (hp w) := by
  refine gx_callS (As := [u1, u2, u3]) hG lk lc hE hd' hn0 hst rfl hd hq (fun v h' z => ?_)
  obtain ⟨w', rfl, rfl, hz⟩ := z
  exact k _ hz
theorem gw_S4X (hG : Cx own b mL rt isI d a n0 Q G) {u1 u2 u3 u4 : Value} {v : Value} (lk : LkS own idx y) (lc : LkC y b' mL' rt' 4) (hE : EvX y b' mL' rt' d' [u1, u2, u3, u4] w v) (hd' : d' < d) (hst : (st.map fun v => v.category).sum ≤ 8) (hd : decode b pc = .ok (.invokestatic idx, 3)) (hq : pc + 3 = q) (hn0 : 102 ≤ n0 + a) (k : G q ls (v :: st) 102 (hp w)) : G pc ls (u4 :: u3 :: u2 :: u1 :: st) 102 (hp w) := by
  refine gx_callS (As := [u1, u2, u3, u4]) hG lk lc hE hd' hn0 hst rfl hd hq (fun v h' z => ?_)
  obtain ⟨w', rfl, rfl, rfl⟩ := z
  exact k
theorem gw_S4I (hG : Cx own b mL rt isI d a n0 Q G) {u1 u2 u3 u4 : Value} {P : Int → Mem → Prop} (lk : LkS own idx y) (lc : LkC y b' mL' rt' 4) (hE : EvI y b' mL' rt' d' [u1, u2, u3, u4] w P) (hd' : d' < d) (hst : (st.map fun v => v.category).sum ≤ 8) (hd : decode b pc = .ok (.invokestatic idx, 3)) (hq : pc + 3 = q) (hn0 : 102 ≤ n0 + a) (k : ∀ (z : Int) (w' : Mem), P z w' → G q ls (Vi z :: st) 102 (hp w')) : G pc ls (u4 :: u3 :: u2 :: u1 :: st) 102 (hp w) := by
  refine gx_callS (As := [u1, u2, u3, u4]) hG lk lc hE hd' hn0 hst rfl hd hq (fun v h' z => ?_)
  obtain ⟨w', rfl, z, rfl, hz⟩ := z
  exact k _ _ hz
theorem gw_S4J (hG : Cx own b mL rt isI d a n0 Q G) {u1 u2 u3 u4 : Value} {P : Int → Mem → Prop} (lk : LkS own idx y) (lc : LkC y b' mL' rt' 4) (hE : EvJ y b' mL' rt' d' [u1, u2, u3, u4] w P) (hd' : d' < d) (hst : (st.map fun v => v.category).sum ≤ 8) (hd : decode b pc = .ok (.invokestatic idx, 3)) (hq : pc + 3 = q) (hn0 : 102 ≤ n0 + a) (k : ∀ (z : Int) (w' : Mem), P z w' → G q ls (Vj z :: st) 102 (hp w')) : G pc ls (u4 :: u3 :: u2 :: u1 :: st) 102 (hp w) := by
  refine gx_callS (As := [u1, u2, u3, u4]) hG lk lc hE hd' hn0 hst rfl hd hq (fun v h' z => ?_)
  obtain ⟨w', rfl, z, rfl, hz⟩ := z
  exact k _ _ hz
theorem gw_S4Y (hG : Cx own b mL rt isI d a n0 Q G) {u1 u2 u3 u4 : Value} {P : Int → Prop} (lk : LkS own idx y) (lc : LkC y b' mL' rt' 4) (hE : EvY y b' mL' rt' d' [u1, u2, u3, u4] w P) (hd' : d' < d) (hst : (st.map fun v => v.category).sum ≤ 8) (hd : decode b pc = .ok (.invokestatic idx, 3)) (hq : pc + 3 = q) (hn0 : 102 ≤ n0 + a) (k : ∀ z : Int, P z → G q ls (Vi z :: st) 102 (hp w)) : G pc ls (u4 :: u3 :: u2 :: u1 :: st) 102 (hp w) := by
  refine gx_callS (As := [u1, u2, u3, u4]) hG lk lc hE hd' hn0 hst rfl hd hq (fun v h' z => ?_)
  obtain ⟨w', rfl, z, rfl, rfl, hz⟩ := z
  exact k _ hz
theorem gw_S4Z (hG : Cx own b mL rt isI d a n0 Q G) {u1 u2 u3 u4 : Value} {P : Int → Prop} (lk : LkS own idx y) (lc : LkC y b' mL' rt' 4) (hE : EvZ y b' mL' rt' d' [u1, u2, u3, u4] w P) (hd' : d' < d) (hst : (st.map fun v => v.category).sum ≤ 8) (hd : decode b pc = .ok (.invokestatic idx, 3)) (hq : pc + 3 = q) (hn0 : 102 ≤ n0 + a) (k : ∀ z : Int, P z → G q ls (Vj z :: st) 102 (hp w)) : G pc ls (u4 :: u3 :: u2 :: u1 :: st) 102 (hp w) := by
  refine gx_callS (As := [u1, u2, u3, u4]) hG lk lc hE hd' hn0 hst rfl hd hq (fun v h' z => ?_)
  obtain ⟨w', rfl, z, rfl, rfl, hz⟩ := z
  exact k _ hz
theorem gw_S4V (hG : Cx own b mL rt isI d a n0 Q G) {u1 u2 u3 u4 : Value} {P : Mem → Prop} (lk : LkS own idx y) (lc : LkC y b' mL' rt' 4) (hE : EvV y b' mL' rt' d' [u1, u2, u3, u4] w P) (hd' : d' < d) (hst : (st.map fun v => v.category).sum ≤ 8) (hd : decode b pc = .ok (.invokestatic idx, 3)) (hq : pc + 3 = q) (hn0 : 102 ≤ n0 + a) (k : ∀ w' : Mem, P w' → G q ls st 102 (hp w')) : G pc ls (u4 :: u3 :: u2 :: u1 :: st) 102 (hp w) := by
  refine gx_callS (As := [u1, u2, u3, u4]) hG lk lc hE hd' hn0 hst rfl hd hq (fun v h' z => ?_)
  obtain ⟨w', rfl, rfl, hz⟩ := z
  exact k _ hz
theorem gw_S5X (hG : Cx own b mL rt isI d a n0 Q G) {u1 u2 u3 u4 u5 : Value} {v : Value} (lk : LkS own idx y) (lc : LkC y b' mL' rt' 5) (hE : EvX y b' mL' rt' d' [u1, u2, u3, u4, u5] w v) (hd' : d' < d) (hst : (st.map fun v => v.category).sum ≤ 8) (hd : decode b pc = .ok (.invokestatic idx, 3)) (hq : pc + 3 = q) (hn0 : 102 ≤ n0 + a) (k : G q ls (v :: st) 102 (hp w)) : G pc ls (u5 :: u4 :: u3 :: u2 :: u1 :: st) 102 (hp w) := by
  refine gx_callS (As := [u1, u2, u3, u4, u5]) hG lk lc hE hd' hn0 hst rfl hd hq (fun v h' z => ?_)
  obtain ⟨w', rfl, rfl, rfl⟩ := z
  exact k
theorem gw_S5I (hG : Cx own b mL rt isI d a n0 Q G) {u1 u2 u3 u4 u5 : Value} {P : Int → Mem → Prop} (lk : LkS own idx y) (lc : LkC y b' mL' rt' 5) (hE : EvI y b' mL' rt' d' [u1, u2, u3, u4, u5] w P) (hd' : d' < d) (hst : (st.map fun v => v.category).sum ≤ 8) (hd : decode b pc = .ok (.invokestatic idx, 3)) (hq : pc + 3 = q) (hn0 : 102 ≤ n0 + a) (k : ∀ (z : Int) (w' : Mem), P z w' → G q ls (Vi z :: st) 102 (hp w')) : G pc ls (u5 :: u4 :: u3 :: u2 :: u1 :: st) 102 (hp w) := by
  refine gx_callS (As := [u1, u2, u3, u4, u5]) hG lk lc hE hd' hn0 hst rfl hd hq (fun v h' z => ?_)
  obtain ⟨w', rfl, z, rfl, hz⟩ := z
  exact k _ _ hz
theorem gw_S5J (hG : Cx own b mL rt isI d a n0 Q G) {u1 u2 u3 u4 u5 : Value} {P : Int → Mem → Prop} (lk : LkS own idx y) (lc : LkC y b' mL' rt' 5) (hE : EvJ y b' mL' rt' d' [u1, u2, u3, u4, u5] w P) (hd' : d' < d) (hst : (st.map fun v => v.category).sum ≤ 8) (hd : decode b pc = .ok (.invokestatic idx, 3)) (hq : pc + 3 = q) (hn0 : 102 ≤ n0 + a) (k : ∀ (z : Int) (w' : Mem), P z w' → G q ls (Vj z :: st) 102 (hp w')) : G pc ls (u5 :: u4 :: u3 :: u2 :: u1 :: st) 102 (hp w) := by
  refine gx_callS (As := [u1, u2, u3, u4, u5]) hG lk lc hE hd' hn0 hst rfl hd hq (fun v h' z => ?_)
  obtain ⟨w', rfl, z, rfl, hz⟩ := z
  exact k _ _ hz
theorem gw_S5Y (hG : Cx own b mL rt isI d a n0 Q G) {u1 u2 u3 u4 u5 : Value} {P : Int → Prop} (lk : LkS own idx y) (lc : LkC y b' mL' rt' 5) (hE : EvY y b' mL' rt' d' [u1, u2, u3, u4, u5] w P) (hd' : d' < d) (hst : (st.map fun v => v.category).sum ≤ 8) (hd : decode b pc = .ok (.invokestatic idx, 3)) (hq : pc + 3 = q) (hn0 : 102 ≤ n0 + a) (k : ∀ z : Int, P z → G q ls (Vi z :: st) 102 (hp w)) : G pc ls (u5 :: u4 :: u3 :: u2 :: u1 :: st) 102 (hp w) := by
  refine gx_callS (As := [u1, u2, u3, u4, u5]) hG lk lc hE hd' hn0 hst rfl hd hq (fun v h' z => ?_)
  obtain ⟨w', rfl, z, rfl, rfl, hz⟩ := z
  exact k _ hz
theorem gw_S5Z (hG : Cx own b mL rt isI d a n0 Q G) {u1 u2 u3 u4 u5 : Value} {P : Int → Prop} (lk : LkS own idx y) (lc : LkC y b' mL' rt' 5) (hE : EvZ y b' mL' rt' d' [u1, u2, u3, u4, u5] w P) (hd' : d' < d) (hst : (st.map fun v => v.category).sum ≤ 8) (hd : decode b pc = .ok (.invokestatic idx, 3)) (hq : pc + 3 = q) (hn0 : 102 ≤ n0 + a) (k : ∀ z : Int, P z → G q ls (Vj z :: st) 102 (hp w)) : G pc ls (u5 :: u4 :: u3 :: u2 :: u1 :: st) 102 (hp w) := by
  refine gx_callS (As := [u1, u2, u3, u4, u5]) hG lk lc hE hd' hn0 hst rfl hd hq (fun v h' z => ?_)
  obtain ⟨w', rfl, z, rfl, rfl, hz⟩ := z
  exact k _ hz
theorem gw_S5V (hG : Cx own b mL rt isI d a n0 Q G) {u1 u2 u3 u4 u5 : Value} {P : Mem → Prop} (lk : LkS own idx y) (lc : LkC y b' mL' rt' 5) (hE : EvV y b' mL' rt' d' [u1, u2, u3, u4, u5] w P) (hd' : d' < d) (hst : (st.map fun v => v.category).sum ≤ 8) (hd : decode b pc = .ok (.invokestatic idx, 3)) (hq : pc + 3 = q) (hn0 : 102 ≤ n0 + a) (k : ∀ w' : Mem, P w' → G q ls st 102 (hp w')) : G pc ls (u5 :: u4 :: u3 :: u2 :: u1 :: st) 102 (hp w) := by
  refine gx_callS (As := [u1, u2, u3, u4, u5]) hG lk lc hE hd' hn0 hst rfl hd hq (fun v h' z => ?_)
  obtain ⟨w', rfl, rfl, hz⟩ := z
  exact k _ hz
theorem gw_N0X (hG : Cx own b mL rt isI d a n0 Q G) {v : Value} {host : String} (lk : LkN own idx y host) (ls2 : Cond.static y ∈ lw_tbl) (lc : LkC y b' mL' rt' 0) (hE : EvX y b' mL' rt' d' [] w v) (hd' : d' < d) (hst : (st.map fun v => v.category).sum ≤ 8) (hd : decode b pc = .ok (.invokestatic idx, 3)) (hq : pc + 3 = q) (hn0 : 102 ≤ n0 + a) (k : G q ls (v :: st) 102 (hp w)) : G pc ls (st) 102 (hp w) := by
  refine gx_callSN (As := []) hG lk ls2 lc hE hd' hn0 hst rfl hd hq (fun v h' z => ?_)
  obtain ⟨w', rfl, rfl, rfl⟩ := z
  exact k
theorem gw_N0I (hG : Cx own b mL rt isI d a n0 Q G) {P : Int → Mem → Prop} {host : String} (lk : LkN own idx y host) (ls2 : Cond.static y ∈ lw_tbl) (lc : LkC y b' mL' rt' 0) (hE : EvI y b' mL' rt' d' [] w P) (hd' : d' < d) (hst : (st.map fun v => v.category).sum ≤ 8) (hd : decode b pc = .ok (.invokestatic idx, 3)) (hq : pc + 3 = q) (hn0 : 102 ≤ n0 + a) (k : ∀ (z : Int) (w' : Mem), P z w' → G q ls (Vi z :: st) 102 (hp w')) : G pc ls (st) 102 (hp w) := by
  refine gx_callSN (As := []) hG lk ls2 lc hE hd' hn0 hst rfl hd hq (fun v h' z => ?_)
  obtain ⟨w', rfl, z, rfl, hz⟩ := z
  exact k _ _ hz
theorem gw_N0J (hG : Cx own b mL rt isI d a n0 Q G) {P : Int → Mem → Prop} {host : String} (lk : LkN own idx y host) (ls2 : Cond.static y ∈ lw_tbl) (lc : LkC y b' mL' rt' 0) (hE : EvJ y b' mL' rt' d' [] w P) (hd' : d' < d) (hst : (st.map fun v => v.category).sum ≤ 8) (hd : decode b pc = .ok (.invokestatic idx, 3)) (hq : pc + 3 = q) (hn0 : 102 ≤ n0 + a) (k : ∀ (z : Int) (w' : Mem), P z w' → G q ls (Vj z :: st) 102 (hp w')) : G pc ls (st) 102 (hp w) := by
  refine gx_callSN (As := []) hG lk ls2 lc hE hd' hn0 hst rfl hd hq (fun v h' z => ?_)
  obtain ⟨w', rfl, z, rfl, hz⟩ := z
  exact k _ _ hz
theorem gw_N0Y (hG : Cx own b mL rt isI d a n0 Q G) {P : Int → Prop} {host : String} (lk : LkN own idx y host) (ls2 : Cond.static y ∈ lw_tbl) (lc : LkC y b' mL' rt' 0) (hE : EvY y b' mL' rt' d' [] w P) (hd' : d' < d) (hst : (st.map fun v => v.category).sum ≤ 8) (hd : decode b pc = .ok (.invokestatic idx, 3)) (hq : pc + 3 = q) (hn0 : 102 ≤ n0 + a) (k : ∀ z : Int, P z → G q ls (Vi z :: st) 102 (hp w)) : G pc ls (st) 102 (hp w) := by
  refine gx_callSN (As := []) hG lk ls2 lc hE hd' hn0 hst rfl hd hq (fun v h' z => ?_)
  obtain ⟨w', rfl, z, rfl, rfl, hz⟩ := z
  exact k _ hz
theorem gw_N0Z (hG : Cx own b mL rt isI d a n0 Q G) {P : Int → Prop} {host : String} (lk : LkN own idx y host) (ls2 : Cond.static y ∈ lw_tbl) (lc : LkC y b' mL' rt' 0) (hE : EvZ y b' mL' rt' d' [] w P) (hd' : d' < d) (hst : (st.map fun v => v.category).sum ≤ 8) (hd : decode b pc = .ok (.invokestatic idx, 3)) (hq : pc + 3 = q) (hn0 : 102 ≤ n0 + a) (k : ∀ z : Int, P z → G q ls (Vj z :: st) 102 (hp w)) : G pc ls (st) 102 (hp w) := by
  refine gx_callSN (As := []) hG lk ls2 lc hE hd' hn0 hst rfl hd hq (fun v h' z => ?_)
  obtain ⟨w', rfl, z, rfl, rfl, hz⟩ := z
  exact k _ hz
theorem gw_N0V (hG : Cx own b mL rt isI d a n0 Q G) {P : Mem → Prop} {host : String} (lk : LkN own idx y host) (ls2 : Cond.static y ∈ lw_tbl) (lc : LkC y b' mL' rt' 0) (hE : EvV y b' mL' rt' d' [] w P) (hd' : d' < d) (hst : (st.map fun v => v.category).sum ≤ 8) (hd : decode b pc = .ok (.invokestatic idx, 3)) (hq : pc + 3 = q) (hn0 : 102 ≤ n0 + a) (k : ∀ w' : Mem, P w' → G q ls st 102 (hp w')) : G pc ls (st) 102 (hp w) := by
  refine gx_callSN (As := []) hG lk ls2 lc hE hd' hn0 hst rfl hd hq (fun v h' z => ?_)
  obtain ⟨w', rfl, rfl, hz⟩ := z
  exact k _ hz
theorem gw_N1X (hG : Cx own b mL rt isI d a n0 Q G) {u1 : Value} {v : Value} {host : String} (lk : LkN own idx y host) (ls2 : Cond.static y ∈ lw_tbl) (lc : LkC y b' mL' rt' 1) (hE : EvX y b' mL' rt' d' [u1] w v) (hd' : d' < d) (hst : (st.map fun v => v.category).sum ≤ 8) (hd : decode b pc = .ok (.invokestatic idx, 3)) (hq : pc + 3 = q) (hn0 : 102 ≤ n0 + a) (k : G q ls (v :: st) 102 (hp w)) : G pc ls (u1 :: st) 102 (hp w) := by
  refine gx_callSN (As := [u1]) hG lk ls2 lc hE hd' hn0 hst rfl hd hq (fun v h' z => ?_)
  obtain ⟨w', rfl, rfl, rfl⟩ := z
  exact k
theorem gw_N1I (hG : Cx own b mL rt isI d a n0 Q G) {u1 : Value} {P : Int → Mem → Prop} {host : String} (lk : LkN own idx y host) (ls2 : Cond.static y ∈ lw_tbl) (lc : LkC y b' mL' rt' 1) (hE : EvI y b' mL' rt' d' [u1] w P) (hd' : d' < d) (hst : (st.map fun v => v.category).sum ≤ 8) (hd : decode b pc = .ok (.invokestatic idx, 3)) (hq : pc + 3 = q) (hn0 : 102 ≤ n0 + a) (k : ∀ (z : Int) (w' : Mem), P z w' → G q ls (Vi z :: st) 102 (hp w')) : G pc ls (u1 :: st) 102 (hp w) := by
  refine gx_callSN (As := [u1]) hG lk ls2 lc hE hd' hn0 hst rfl hd hq (fun v h' z => ?_)
  obtain ⟨w', rfl, z, rfl, hz⟩ := z
  exact k _ _ hz
theorem gw_N1J (hG : Cx own b mL rt isI d a n0 Q G) {u1 : Value} {P : Int → Mem → Prop} {host : String} (lk : LkN own idx y host) (ls2 : Cond.static y ∈ lw_tbl) (lc : LkC y b' mL' rt' 1) (hE : EvJ y b' mL' rt' d' [u1] w P) (hd' : d' < d) (hst : (st.map fun v => v.category).sum ≤ 8) (hd : decode b pc = .ok (.invokestatic idx, 3)) (hq : pc + 3 = q) (hn0 : 102 ≤ n0 + a) (k : ∀ (z : Int) (w' : Mem), P z w' → G q ls (Vj z :: st) 102 (hp w')) : G pc ls (u1 :: st) 102 (hp w) := by
  refine gx_callSN (As := [u1]) hG lk ls2 lc hE hd' hn0 hst rfl hd hq (fun v h' z => ?_)
  obtain ⟨w', rfl, z, rfl, hz⟩ := z
  exact k _ _ hz
theorem gw_N1Y (hG : Cx own b mL rt isI d a n0 Q G) {u1 : Value} {P : Int → Prop} {host : String} (lk : LkN own idx y host) (ls2 : Cond.static y ∈ lw_tbl) (lc : LkC y b' mL' rt' 1) (hE : EvY y b' mL' rt' d' [u1] w P) (hd' : d' < d) (hst : (st.map fun v => v.category).sum ≤ 8) (hd : decode b pc = .ok (.invokestatic idx, 3)) (hq : pc + 3 = q) (hn0 : 102 ≤ n0 + a) (k : ∀ z : Int, P z → G q ls (Vi z :: st) 102 (hp w)) : G pc ls (u1 :: st) 102 (hp w) := by
  refine gx_callSN (As := [u1]) hG lk ls2 lc hE hd' hn0 hst rfl hd hq (fun v h' z => ?_)
  obtain ⟨w', rfl, z, rfl, rfl, hz⟩ := z
  exact k _ hz
theorem gw_N1Z (hG : Cx own b mL rt isI d a n0 Q G) {u1 : Value} {P : Int → Prop} {host : String} (lk : LkN own idx y host) (ls2 : Cond.static y ∈ lw_tbl) (lc : LkC y b' mL' rt' 1) (hE : EvZ y b' mL' rt' d' [u1] w P) (hd' : d' < d) (hst : (st.map fun v => v.category).sum ≤ 8) (hd : decode b pc = .ok (.invokestatic idx, 3)) (hq : pc + 3 = q) (hn0 : 102 ≤ n0 + a) (k : ∀ z : Int, P z → G q ls (Vj z :: st) 102 (hp w)) : G pc ls (u1 :: st) 102 (hp w) := by
  refine gx_callSN (As := [u1]) hG lk ls2 lc hE hd' hn0 hst rfl hd hq (fun v h' z => ?_)
  obtain ⟨w', rfl, z, rfl, rfl, hz⟩ := z
  exact k _ hz
theorem gw_N1V (hG : Cx own b mL rt isI d a n0 Q G) {u1 : Value} {P : Mem → Prop} {host : String} (lk : LkN own idx y host) (ls2 : Cond.static y ∈ lw_tbl) (lc : LkC y b' mL' rt' 1) (hE : EvV y b' mL' rt' d' [u1] w P) (hd' : d' < d) (hst : (st.map fun v => v.category).sum ≤ 8) (hd : decode b pc = .ok (.invokestatic idx, 3)) (hq : pc + 3 = q) (hn0 : 102 ≤ n0 + a) (k : ∀ w' : Mem, P w' → G q ls st 102 (hp w')) : G pc ls (u1 :: st) 102 (hp w) := by
  refine gx_callSN (As := [u1]) hG lk ls2 lc hE hd' hn0 hst rfl hd hq (fun v h' z => ?_)
  obtain ⟨w', rfl, rfl, hz⟩ := z
  exact k _ hz
theorem gw_N2X (hG : Cx own b mL rt isI d a n0 Q G) {u1 u2 : Value} {v : Value} {host : String} (lk : LkN own idx y host) (ls2 : Cond.static y ∈ lw_tbl) (lc : LkC y b' mL' rt' 2) (hE : EvX y b' mL' rt' d' [u1, u2] w v) (hd' : d' < d) (hst : (st.map fun v => v.category).sum ≤ 8) (hd : decode b pc = .ok (.invokestatic idx, 3)) (hq : pc + 3 = q) (hn0 : 102 ≤ n0 + a) (k : G q ls (v :: st) 102 (hp w)) : G pc ls (u2 :: u1 :: st) 102 (hp w) := by
  refine gx_callSN (As := [u1, u2]) hG lk ls2 lc hE hd' hn0 hst rfl hd hq (fun v h' z => ?_)
  obtain ⟨w', rfl, rfl, rfl⟩ := z
  exact k
theorem gw_N2I (hG : Cx own b mL rt isI d a n0 Q G) {u1 u2 : Value} {P : Int → Mem → Prop} {host : String} (lk : LkN own idx y host) (ls2 : Cond.static y ∈ lw_tbl) (lc : LkC y b' mL' rt' 2) (hE : EvI y b' mL' rt' d' [u1, u2] w P) (hd' : d' < d) (hst : (st.map fun v => v.category).sum ≤ 8) (hd : decode b pc = .ok (.invokestatic idx, 3)) (hq : pc + 3 = q) (hn0 : 102 ≤ n0 + a) (k : ∀ (z : Int) (w' : Mem), P z w' → G q ls (Vi z :: st) 102 (hp w')) : G pc ls (u2 :: u1 :: st) 102 (hp w) := by
  refine gx_callSN (As := [u1, u2]) hG lk ls2 lc hE hd' hn0 hst rfl hd hq (fun v h' z => ?_)
  obtain ⟨w', rfl, z, rfl, hz⟩ := z
  exact k _ _ hz
theorem gw_N2J (hG : Cx own b mL rt isI d a n0 Q G) {u1 u2 : Value} {P : Int → Mem → Prop} {host : String} (lk : LkN own idx y host) (ls2 : Cond.static y ∈ lw_tbl) (lc : LkC y b' mL' rt' 2) (hE : EvJ y b' mL' rt' d' [u1, u2] w P) (hd' : d' < d) (hst : (st.map fun v => v.category).sum ≤ 8) (hd : decode b pc = .ok (.invokestatic idx, 3)) (hq : pc + 3 = q) (hn0 : 102 ≤ n0 + a) (k : ∀ (z : Int) (w' : Mem), P z w' → G q ls (Vj z :: st) 102 (hp w')) : G pc ls (u2 :: u1 :: st) 102 (hp w) := by
  refine gx_callSN (As := [u1, u2]) hG lk ls2 lc hE hd' hn0 hst rfl hd hq (fun v h' z => ?_)
  obtain ⟨w', rfl, z, rfl, hz⟩ := z
  exact k _ _ hz
theorem gw_N2Y (hG : Cx own b mL rt isI d a n0 Q G) {u1 u2 : Value} {P : Int → Prop} {host : String} (lk : LkN own idx y host) (ls2 : Cond.static y ∈ lw_tbl) (lc : LkC y b' mL' rt' 2) (hE : EvY y b' mL' rt' d' [u1, u2] w P) (hd' : d' < d) (hst : (st.map fun v => v.category).sum ≤ 8) (hd : decode b pc = .ok (.invokestatic idx, 3)) (hq : pc + 3 = q) (hn0 : 102 ≤ n0 + a) (k : ∀ z : Int, P z → G q ls (Vi z :: st) 102 (hp w)) : G pc ls (u2 :: u1 :: st) 102 (hp w) := by
  refine gx_callSN (As := [u1, u2]) hG lk ls2 lc hE hd' hn0 hst rfl hd hq (fun v h' z => ?_)
  obtain ⟨w', rfl, z, rfl, rfl, hz⟩ := z
  exact k _ hz
theorem gw_N2Z (hG : Cx own b mL rt isI d a n0 Q G) {u1 u2 : Value} {P : Int → Prop} {host : String} (lk : LkN own idx y host) (ls2 : Cond.static y ∈ lw_tbl) (lc : LkC y b' mL' rt' 2) (hE : EvZ y b' mL' rt' d' [u1, u2] w P) (hd' : d' < d) (hst : (st.map fun v => v.category).sum ≤ 8) (hd : decode b pc = .ok (.invokestatic idx, 3)) (hq : pc + 3 = q) (hn0 : 102 ≤ n0 + a) (k : ∀ z : Int, P z → G q ls (Vj z :: st) 102 (hp w)) : G pc ls (u2 :: u1 :: st) 102 (hp w) := by
  refine gx_callSN (As := [u1, u2]) hG lk ls2 lc hE hd' hn0 hst rfl hd hq (fun v h' z => ?_)
  obtain ⟨w', rfl, z, rfl, rfl, hz⟩ := z
  exact k _ hz
theorem gw_N2V (hG : Cx own b mL rt isI d a n0 Q G) {u1 u2 : Value} {P : Mem → Prop} {host : String} (lk : LkN own idx y host) (ls2 : Cond.static y ∈ lw_tbl) (lc : LkC y b' mL' rt' 2) (hE : EvV y b' mL' rt' d' [u1, u2] w P) (hd' : d' < d) (hst : (st.map fun v => v.category).sum ≤ 8) (hd : decode b pc = .ok (.invokestatic idx, 3)) (hq : pc + 3 = q) (hn0 : 102 ≤ n0 + a) (k : ∀ w' : Mem, P w' → G q ls st 102 (hp w')) : G pc ls (u2 :: u1 :: st) 102 (hp w) := by
  refine gx_callSN (As := [u1, u2]) hG lk ls2 lc hE hd' hn0 hst rfl hd hq (fun v h' z => ?_)
  obtain ⟨w', rfl, rfl, hz⟩ := z
  exact k _ hz
theorem gw_N3X (hG : Cx own b mL rt isI d a n0 Q G) {u1 u2 u3 : Value} {v : Value} {host : String} (lk : LkN own idx y host) (ls2 : Cond.static y ∈ lw_tbl) (lc : LkC y b' mL' rt' 3) (hE : EvX y b' mL' rt' d' [u1, u2, u3] w v) (hd' : d' < d) (hst : (st.map fun v => v.category).sum ≤ 8) (hd : decode b pc = .ok (.invokestatic idx, 3)) (hq : pc + 3 = q) (hn0 : 102 ≤ n0 + a) (k : G q ls (v :: st) 102 (hp w)) : G pc ls (u3 :: u2 :: u1 :: st) 102 (hp w) := by
  refine gx_callSN (As := [u1, u2, u3]) hG lk ls2 lc hE hd' hn0 hst rfl hd hq (fun v h' z => ?_)
  obtain ⟨w', rfl, rfl, rfl⟩ := z
  exact k
theorem gw_N3I (hG : Cx own b mL rt isI d a n0 Q G) {u1 u2 u3 : Value} {P : Int → Mem → Prop} {host : String} (lk : LkN own idx y host) (ls2 : Cond.static y ∈ lw_tbl) (lc : LkC y b' mL' rt' 3) (hE : EvI y b' mL' rt' d' [u1, u2, u3] w P) (hd' : d' < d) (hst : (st.map fun v => v.category).sum ≤ 8) (hd : decode b pc = .ok (.invokestatic idx, 3)) (hq : pc + 3 = q) (hn0 : 102 ≤ n0 + a) (k : ∀ (z : Int) (w' : Mem), P z w' → G q ls (Vi z :: st) 102 (hp w')) : G pc ls (u3 :: u2 :: u1 :: st) 102 (hp w) := by
  refine gx_callSN (As := [u1, u2, u3]) hG lk ls2 lc hE hd' hn0 hst rfl hd hq (fun v h' z => ?_)
  obtain ⟨w', rfl, z, rfl, hz⟩ := z
  exact k _ _ hz
theorem gw_N3J (hG : Cx own b mL rt isI d a n0 Q G) {u1 u2 u3 : Value} {P : Int → Mem → Prop} {host : String} (lk : LkN own idx y host) (ls2 : Cond.static y ∈ lw_tbl) (lc : LkC y b' mL' rt' 3) (hE : EvJ y b' mL' rt' d' [u1, u2, u3] w P) (hd' : d' < d) (hst : (st.map fun v => v.category).sum ≤ 8) (hd : decode b pc = .ok (.invokestatic idx, 3)) (hq : pc + 3 = q) (hn0 : 102 ≤ n0 + a) (k : ∀ (z : Int) (w' : Mem), P z w' → G q ls (Vj z :: st) 102 (hp w')) : G pc ls (u3 :: u2 :: u1 :: st) 102 (hp w) := by
  refine gx_callSN (As := [u1, u2, u3]) hG lk ls2 lc hE hd' hn0 hst rfl hd hq (fun v h' z => ?_)
  obtain ⟨w', rfl, z, rfl, hz⟩ := z
  exact k _ _ hz
theorem gw_N3Y (hG : Cx own b mL rt isI d a n0 Q G) {u1 u2 u3 : Value} {P : Int → Prop} {host : String} (lk : LkN own idx y host) (ls2 : Cond.static y ∈ lw_tbl) (lc : LkC y b' mL' rt' 3) (hE : EvY y b' mL' rt' d' [u1, u2, u3] w P) (hd' : d' < d) (hst : (st.map fun v => v.category).sum ≤ 8) (hd : decode b pc = .ok (.invokestatic idx, 3)) (hq : pc + 3 = q) (hn0 : 102 ≤ n0 + a) (k : ∀ z : Int, P z → G q ls (Vi z :: st) 102 (hp w)) : G pc ls (u3 :: u2 :: u1 :: st) 102 (hp w) := by
  refine gx_callSN (As := [u1, u2, u3]) hG lk ls2 lc hE hd' hn0 hst rfl hd hq (fun v h' z => ?_)
  obtain ⟨w', rfl, z, rfl, rfl, hz⟩ := z
  exact k _ hz
theorem gw_N3Z (hG : Cx own b mL rt isI d a n0 Q G) {u1 u2 u3 : Value} {P : Int → Prop} {host : String} (lk : LkN own idx y host) (ls2 : Cond.static y ∈ lw_tbl) (lc : LkC y b' mL' rt' 3) (hE : EvZ y b' mL' rt' d' [u1, u2, u3] w P) (hd' : d' < d) (hst : (st.map fun v => v.category).sum ≤ 8) (hd : decode b pc = .ok (.invokestatic idx, 3)) (hq : pc + 3 = q) (hn0 : 102 ≤ n0 + a) (k : ∀ z : Int, P z → G q ls (Vj z :: st) 102 (hp w)) : G pc ls (u3 :: u2 :: u1 :: st) 102 (hp w) := by
  refine gx_callSN (As := [u1, u2, u3]) hG lk ls2 lc hE hd' hn0 hst rfl hd hq (fun v h' z => ?_)
  obtain ⟨w', rfl, z, rfl, rfl, hz⟩ := z
  exact k _ hz
theorem gw_N3V (hG : Cx own b mL rt isI d a n0 Q G) {u1 u2 u3 : Value} {P : Mem → Prop} {host : String} (lk : LkN own idx y host) (ls2 : Cond.static y ∈ lw_tbl) (lc : LkC y b' mL' rt' 3) (hE : EvV y b' mL' rt' d' [u1, u2, u3] w P) (hd' : d' < d) (hst : (st.map fun v => v.category).sum ≤ 8) (hd : decode b pc = .ok (.invokestatic idx, 3)) (hq : pc + 3 = q) (hn0 : 102 ≤ n0 + a) (k : ∀ w' : Mem, P w' → G q ls st 102 (hp w')) : G pc ls (u3 :: u2 :: u1 :: st) 102 (hp w) := by
  refine gx_callSN (As := [u1, u2, u3]) hG lk ls2 lc hE hd' hn0 hst rfl hd hq (fun v h' z => ?_)
  obtain ⟨w', rfl, rfl, hz⟩ := z
  exact k _ hz
theorem gw_N4X (hG : Cx own b mL rt isI d a n0 Q G) {u1 u2 u3 u4 : Value} {v : Value} {host : String} (lk : LkN own idx y host) (ls2 : Cond.static y ∈ lw_tbl) (lc : LkC y b' mL' rt' 4) (hE : EvX y b' mL' rt' d' [u1, u2, u3, u4] w v) (hd' : d' < d) (hst : (st.map fun v => v.category).sum ≤ 8) (hd : decode b pc = .ok (.invokestatic idx, 3)) (hq : pc + 3 = q) (hn0 : 102 ≤ n0 + a) (k : G q ls (v :: st) 102 (hp w)) : G pc ls (u4 :: u3 :: u2 :: u1 :: st) 102 (hp w) := by
  refine gx_callSN (As := [u1, u2, u3, u4]) hG lk ls2 lc hE hd' hn0 hst rfl hd hq (fun v h' z => ?_)
  obtain ⟨w', rfl, rfl, rfl⟩ := z
  exact k
theorem gw_N4I (hG : Cx own b mL rt isI d a n0 Q G) {u1 u2 u3 u4 : Value} {P : Int → Mem → Prop} {host : String} (lk : LkN own idx y host) (ls2 : Cond.static y ∈ lw_tbl) (lc : LkC y b' mL' rt' 4) (hE : EvI y b' mL' rt' d' [u1, u2, u3, u4] w P) (hd' : d' < d) (hst : (st.map fun v => v.category).sum ≤ 8) (hd : decode b pc = .ok (.invokestatic idx, 3)) (hq : pc + 3 = q) (hn0 : 102 ≤ n0 + a) (k : ∀ (z : Int) (w' : Mem), P z w' → G q ls (Vi z :: st) 102 (hp w')) : G pc ls (u4 :: u3 :: u2 :: u1 :: st) 102 (hp w) := by
  refine gx_callSN (As := [u1, u2, u3, u4]) hG lk ls2 lc hE hd' hn0 hst rfl hd hq (fun v h' z => ?_)
  obtain ⟨w', rfl, z, rfl, hz⟩ := z
  exact k _ _ hz
theorem gw_N4J (hG : Cx own b mL rt isI d a n0 Q G) {u1 u2 u3 u4 : Value} {P : Int → Mem → Prop} {host : String} (lk : LkN own idx y host) (ls2 : Cond.static y ∈ lw_tbl) (lc : LkC y b' mL' rt' 4) (hE : EvJ y b' mL' rt' d' [u1, u2, u3, u4] w P) (hd' : d' < d) (hst : (st.map fun v => v.category).sum ≤ 8) (hd : decode b pc = .ok (.invokestatic idx, 3)) (hq : pc + 3 = q) (hn0 : 102 ≤ n0 + a) (k : ∀ (z : Int) (w' : Mem), P z w' → G q ls (Vj z :: st) 102 (hp w')) : G pc ls (u4 :: u3 :: u2 :: u1 :: st) 102 (hp w) := by
  refine gx_callSN (As := [u1, u2, u3, u4]) hG lk ls2 lc hE hd' hn0 hst rfl hd hq (fun v h' z => ?_)
  obtain ⟨w', rfl, z, rfl, hz⟩ := z
  exact k _ _ hz
theorem gw_N4Y (hG : Cx own b mL rt isI d a n0 Q G) {u1 u2 u3 u4 : Value} {P : Int → Prop} {host : String} (lk : LkN own idx y host) (ls2 : Cond.static y ∈ lw_tbl) (lc : LkC y b' mL' rt' 4) (hE : EvY y b' mL' rt' d' [u1, u2, u3, u4] w P) (hd' : d' < d) (hst : (st.map fun v => v.category).sum ≤ 8) (hd : decode b pc = .ok (.invokestatic idx, 3)) (hq : pc + 3 = q) (hn0 : 102 ≤ n0 + a) (k : ∀ z : Int, P z → G q ls (Vi z :: st) 102 (hp w)) : G pc ls (u4 :: u3 :: u2 :: u1 :: st) 102 (hp w) := by
  refine gx_callSN (As := [u1, u2, u3, u4]) hG lk ls2 lc hE hd' hn0 hst rfl hd hq (fun v h' z => ?_)
  obtain ⟨w', rfl, z, rfl, rfl, hz⟩ := z
  exact k _ hz
theorem gw_N4Z (hG : Cx own b mL rt isI d a n0 Q G) {u1 u2 u3 u4 : Value} {P : Int → Prop} {host : String} (lk : LkN own idx y host) (ls2 : Cond.static y ∈ lw_tbl) (lc : LkC y b' mL' rt' 4) (hE : EvZ y b' mL' rt' d' [u1, u2, u3, u4] w P) (hd' : d' < d) (hst : (st.map fun v => v.category).sum ≤ 8) (hd : decode b pc = .ok (.invokestatic idx, 3)) (hq : pc + 3 = q) (hn0 : 102 ≤ n0 + a) (k : ∀ z : Int, P z → G q ls (Vj z :: st) 102 (hp w)) : G pc ls (u4 :: u3 :: u2 :: u1 :: st) 102 (hp w) := by
  refine gx_callSN (As := [u1, u2, u3, u4]) hG lk ls2 lc hE hd' hn0 hst rfl hd hq (fun v h' z => ?_)
  obtain ⟨w', rfl, z, rfl, rfl, hz⟩ := z
  exact k _ hz
theorem gw_N4V (hG : Cx own b mL rt isI d a n0 Q G) {u1 u2 u3 u4 : Value} {P : Mem → Prop} {host : String} (lk : LkN own idx y host) (ls2 : Cond.static y ∈ lw_tbl) (lc : LkC y b' mL' rt' 4) (hE : EvV y b' mL' rt' d' [u1, u2, u3, u4] w P) (hd' : d' < d) (hst : (st.map fun v => v.category).sum ≤ 8) (hd : decode b pc = .ok (.invokestatic idx, 3)) (hq : pc + 3 = q) (hn0 : 102 ≤ n0 + a) (k : ∀ w' : Mem, P w' → G q ls st 102 (hp w')) : G pc ls (u4 :: u3 :: u2 :: u1 :: st) 102 (hp w) := by
  refine gx_callSN (As := [u1, u2, u3, u4]) hG lk ls2 lc hE hd' hn0 hst rfl hd hq (fun v h' z => ?_)
  obtain ⟨w', rfl, rfl, hz⟩ := z
  exact k _ hz
theorem gw_N5X (hG : Cx own b mL rt isI d a n0 Q G) {u1 u2 u3 u4 u5 : Value} {v : Value} {host : String} (lk : LkN own idx y host) (ls2 : Cond.static y ∈ lw_tbl) (lc : LkC y b' mL' rt' 5) (hE : EvX y b' mL' rt' d' [u1, u2, u3, u4, u5] w v) (hd' : d' < d) (hst : (st.map fun v => v.category).sum ≤ 8) (hd : decode b pc = .ok (.invokestatic idx, 3)) (hq : pc + 3 = q) (hn0 : 102 ≤ n0 + a) (k : G q ls (v :: st) 102 (hp w)) : G pc ls (u5 :: u4 :: u3 :: u2 :: u1 :: st) 102 (hp w) := by
  refine gx_callSN (As := [u1, u2, u3, u4, u5]) hG lk ls2 lc hE hd' hn0 hst rfl hd hq (fun v h' z => ?_)
  obtain ⟨w', rfl, rfl, rfl⟩ := z
  exact k
theorem gw_N5I (hG : Cx own b mL rt isI d a n0 Q G) {u1 u2 u3 u4 u5 : Value} {P : Int → Mem → Prop} {host : String} (lk : LkN own idx y host) (ls2 : Cond.static y ∈ lw_tbl) (lc : LkC y b' mL' rt' 5) (hE : EvI y b' mL' rt' d' [u1, u2, u3, u4, u5] w P) (hd' : d' < d) (hst : (st.map fun v => v.category).sum ≤ 8) (hd : decode b pc = .ok (.invokestatic idx, 3)) (hq : pc + 3 = q) (hn0 : 102 ≤ n0 + a) (k : ∀ (z : Int) (w' : Mem), P z w' → G q ls (Vi z :: st) 102 (hp w')) : G pc ls (u5 :: u4 :: u3 :: u2 :: u1 :: st) 102 (hp w) := by
  refine gx_callSN (As := [u1, u2, u3, u4, u5]) hG lk ls2 lc hE hd' hn0 hst rfl hd hq (fun v h' z => ?_)
  obtain ⟨w', rfl, z, rfl, hz⟩ := z
  exact k _ _ hz
theorem gw_N5J (hG : Cx own b mL rt isI d a n0 Q G) {u1 u2 u3 u4 u5 : Value} {P : Int → Mem → Prop} {host : String} (lk : LkN own idx y host) (ls2 : Cond.static y ∈ lw_tbl) (lc : LkC y b' mL' rt' 5) (hE : EvJ y b' mL' rt' d' [u1, u2, u3, u4, u5] w P) (hd' : d' < d) (hst : (st.map fun v => v.category).sum ≤ 8) (hd : decode b pc = .ok (.invokestatic idx, 3)) (hq : pc + 3 = q) (hn0 : 102 ≤ n0 + a) (k : ∀ (z : Int) (w' : Mem), P z w' → G q ls (Vj z :: st) 102 (hp w')) : G pc ls (u5 :: u4 :: u3 :: u2 :: u1 :: st) 102 (hp w) := by
  refine gx_callSN (As := [u1, u2, u3, u4, u5]) hG lk ls2 lc hE hd' hn0 hst rfl hd hq (fun v h' z => ?_)
  obtain ⟨w', rfl, z, rfl, hz⟩ := z
  exact k _ _ hz
theorem gw_N5Y (hG : Cx own b mL rt isI d a n0 Q G) {u1 u2 u3 u4 u5 : Value} {P : Int → Prop} {host : String} (lk : LkN own idx y host) (ls2 : Cond.static y ∈ lw_tbl) (lc : LkC y b' mL' rt' 5) (hE : EvY y b' mL' rt' d' [u1, u2, u3, u4, u5] w P) (hd' : d' < d) (hst : (st.map fun v => v.category).sum ≤ 8) (hd : decode b pc = .ok (.invokestatic idx, 3)) (hq : pc + 3 = q) (hn0 : 102 ≤ n0 + a) (k : ∀ z : Int, P z → G q ls (Vi z :: st) 102 (hp w)) : G pc ls (u5 :: u4 :: u3 :: u2 :: u1 :: st) 102 (hp w) := by
  refine gx_callSN (As := [u1, u2, u3, u4, u5]) hG lk ls2 lc hE hd' hn0 hst rfl hd hq (fun v h' z => ?_)
  obtain ⟨w', rfl, z, rfl, rfl, hz⟩ := z
  exact k _ hz
theorem gw_N5Z (hG : Cx own b mL rt isI d a n0 Q G) {u1 u2 u3 u4 u5 : Value} {P : Int → Prop} {host : String} (lk : LkN own idx y host) (ls2 : Cond.static y ∈ lw_tbl) (lc : LkC y b' mL' rt' 5) (hE : EvZ y b' mL' rt' d' [u1, u2, u3, u4, u5] w P) (hd' : d' < d) (hst : (st.map fun v => v.category).sum ≤ 8) (hd : decode b pc = .ok (.invokestatic idx, 3)) (hq : pc + 3 = q) (hn0 : 102 ≤ n0 + a) (k : ∀ z : Int, P z → G q ls (Vj z :: st) 102 (hp w)) : G pc ls (u5 :: u4 :: u3 :: u2 :: u1 :: st) 102 (hp w) := by
  refine gx_callSN (As := [u1, u2, u3, u4, u5]) hG lk ls2 lc hE hd' hn0 hst rfl hd hq (fun v h' z => ?_)
  obtain ⟨w', rfl, z, rfl, rfl, hz⟩ := z
  exact k _ hz
theorem gw_N5V (hG : Cx own b mL rt isI d a n0 Q G) {u1 u2 u3 u4 u5 : Value} {P : Mem → Prop} {host : String} (lk : LkN own idx y host) (ls2 : Cond.static y ∈ lw_tbl) (lc : LkC y b' mL' rt' 5) (hE : EvV y b' mL' rt' d' [u1, u2, u3, u4, u5] w P) (hd' : d' < d) (hst : (st.map fun v => v.category).sum ≤ 8) (hd : decode b pc = .ok (.invokestatic idx, 3)) (hq : pc + 3 = q) (hn0 : 102 ≤ n0 + a) (k : ∀ w' : Mem, P w' → G q ls st 102 (hp w')) : G pc ls (u5 :: u4 :: u3 :: u2 :: u1 :: st) 102 (hp w) := by
  refine gx_callSN (As := [u1, u2, u3, u4, u5]) hG lk ls2 lc hE hd' hn0 hst rfl hd hq (fun v h' z => ?_)
  obtain ⟨w', rfl, rfl, hz⟩ := z
  exact k _ hz
theorem gw_V0X (hG : Cx own b mL rt isI d a n0 Q G) {v : Value} {x : Int} {ci : Nat} {fs : List Value} (lk : LkV own idx y) (lc : LkC y b' mL' rt' 0) (hE : EvX y b' mL' rt' d' (Vr x :: []) w v) (hrec : hp w x = cO ci fs) (hci : (clsL[ci]?).map (fun r => r.1) = some y.cls) (hd' : d' < d) (hst : (st.map fun v => v.category).sum ≤ 8) (hd : decode b pc = .ok (.invokevirtual idx, 3)) (hq : pc + 3 = q) (hn0 : 102 ≤ n0 + a) (k : G q ls (v :: st) 102 (hp w)) : G pc ls (Vr x :: st) 102 (hp w) := by
  refine gx_callV (As := []) hG lk lc hE hrec hci hd' hn0 hst rfl hd hq (fun v h' z => ?_)
  obtain ⟨w', rfl, rfl, rfl⟩ := z
  exact k
theorem gw_V0I (hG : Cx own b mL rt isI d a n0 Q G) {P : Int → Mem → Prop} {x : Int} {ci : Nat} {fs : List Value} (lk : LkV own idx y) (lc : LkC y b' mL' rt' 0) (hE : EvI y b' mL' rt' d' (Vr x :: []) w P) (hrec : hp w x = cO ci fs) (hci : (clsL[ci]?).map (fun r => r.1) = some y.cls) (hd' : d' < d) (hst : (st.map fun v => v.category).sum ≤ 8) (hd : decode b pc = .ok (.invokevirtual idx, 3)) (hq : pc + 3 = q) (hn0 : 102 ≤ n0 + a) (k : ∀ (z : Int) (w' : Mem), P z w' → G q ls (Vi z :: st) 102 (hp w')) : G pc ls (Vr x :: st) 102 (hp w) := by
  refine gx_callV (As := []) hG lk lc hE hrec hci hd' hn0 hst rfl hd hq (fun v h' z => ?_)
  obtain ⟨w', rfl, z, rfl, hz⟩ := z
  exact k _ _ hz
theorem gw_V0J (hG : Cx own b mL rt isI d a n0 Q G) {P : Int → Mem → Prop} {x : Int} {ci : Nat} {fs : List Value} (lk : LkV own idx y) (lc : LkC y b' mL' rt' 0) (hE : EvJ y b' mL' rt' d' (Vr x :: []) w P) (hrec : hp w x = cO ci fs) (hci : (clsL[ci]?).map (fun r => r.1) = some y.cls) (hd' : d' < d) (hst : (st.map fun v => v.category).sum ≤ 8) (hd : decode b pc = .ok (.invokevirtual idx, 3)) (hq : pc + 3 = q) (hn0 : 102 ≤ n0 + a) (k : ∀ (z : Int) (w' : Mem), P z w' → G q ls (Vj z :: st) 102 (hp w')) : G pc ls (Vr x :: st) 102 (hp w) := by
  refine gx_callV (As := []) hG lk lc hE hrec hci hd' hn0 hst rfl hd hq (fun v h' z => ?_)
  obtain ⟨w', rfl, z, rfl, hz⟩ := z
  exact k _ _ hz
theorem gw_V0Y (hG : Cx own b mL rt isI d a n0 Q G) {P : Int → Prop} {x : Int} {ci : Nat} {fs : List Value} (lk : LkV own idx y) (lc : LkC y b' mL' rt' 0) (hE : EvY y b' mL' rt' d' (Vr x :: []) w P) (hrec : hp w x = cO ci fs) (hci : (clsL[ci]?).map (fun r => r.1) = some y.cls) (hd' : d' < d) (hst : (st.map fun v => v.category).sum ≤ 8) (hd : decode b pc = .ok (.invokevirtual idx, 3)) (hq : pc + 3 = q) (hn0 : 102 ≤ n0 + a) (k : ∀ z : Int, P z → G q ls (Vi z :: st) 102 (hp w)) : G pc ls (Vr x :: st) 102 (hp w) := by
  refine gx_callV (As := []) hG lk lc hE hrec hci hd' hn0 hst rfl hd hq (fun v h' z => ?_)
  obtain ⟨w', rfl, z, rfl, rfl, hz⟩ := z
  exact k _ hz
theorem gw_V0Z (hG : Cx own b mL rt isI d a n0 Q G) {P : Int → Prop} {x : Int} {ci : Nat} {fs : List Value} (lk : LkV own idx y) (lc : LkC y b' mL' rt' 0) (hE : EvZ y b' mL' rt' d' (Vr x :: []) w P) (hrec : hp w x = cO ci fs) (hci : (clsL[ci]?).map (fun r => r.1) = some y.cls) (hd' : d' < d) (hst : (st.map fun v => v.category).sum ≤ 8) (hd : decode b pc = .ok (.invokevirtual idx, 3)) (hq : pc + 3 = q) (hn0 : 102 ≤ n0 + a) (k : ∀ z : Int, P z → G q ls (Vj z :: st) 102 (hp w)) : G pc ls (Vr x :: st) 102 (hp w) := by
  refine gx_callV (As := []) hG lk lc hE hrec hci hd' hn0 hst rfl hd hq (fun v h' z => ?_)
  obtain ⟨w', rfl, z, rfl, rfl, hz⟩ := z
  exact k _ hz
theorem gw_V0V (hG : Cx own b mL rt isI d a n0 Q G) {P : Mem → Prop} {x : Int} {ci : Nat} {fs : List Value} (lk : LkV own idx y) (lc : LkC y b' mL' rt' 0) (hE : EvV y b' mL' rt' d' (Vr x :: []) w P) (hrec : hp w x = cO ci fs) (hci : (clsL[ci]?).map (fun r => r.1) = some y.cls) (hd' : d' < d) (hst : (st.map fun v => v.category).sum ≤ 8) (hd : decode b pc = .ok (.invokevirtual idx, 3)) (hq : pc + 3 = q) (hn0 : 102 ≤ n0 + a) (k : ∀ w' : Mem, P w' → G q ls st 102 (hp w')) : G pc ls (Vr x :: st) 102 (hp w) := by
  refine gx_callV (As := []) hG lk lc hE hrec hci hd' hn0 hst rfl hd hq (fun v h' z => ?_)
  obtain ⟨w', rfl, rfl, hz⟩ := z
  exact k _ hz
theorem gw_V1X (hG : Cx own b mL rt isI d a n0 Q G) {u1 : Value} {v : Value} {x : Int} {ci : Nat} {fs : List Value} (lk : LkV own idx y) (lc : LkC y b' mL' rt' 1) (hE : EvX y b' mL' rt' d' (Vr x :: [u1]) w v) (hrec : hp w x = cO ci fs) (hci : (clsL[ci]?).map (fun r => r.1) = some y.cls) (hd' : d' < d) (hst : (st.map fun v => v.category).sum ≤ 8) (hd : decode b pc = .ok (.invokevirtual idx, 3)) (hq : pc + 3 = q) (hn0 : 102 ≤ n0 + a) (k : G q ls (v :: st) 102 (hp w)) : G pc ls (u1 :: Vr x :: st) 102 (hp w) := by
  refine gx_callV (As := [u1]) hG lk lc hE hrec hci hd' hn0 hst rfl hd hq (fun v h' z => ?_)
  obtain ⟨w', rfl, rfl, rfl⟩ := z
  exact k
theorem gw_V1I (hG : Cx own b mL rt isI d a n0 Q G) {u1 : Value} {P : Int → Mem → Prop} {x : Int} {ci : Nat} {fs : List Value} (lk : LkV own idx y) (lc : LkC y b' mL' rt' 1) (hE : EvI y b' mL' rt' d' (Vr x :: [u1]) w P) (hrec : hp w x = cO ci fs) (hci : (clsL[ci]?).map (fun r => r.1) = some y.cls) (hd' : d' < d) (hst : (st.map fun v => v.category).sum ≤ 8) (hd : decode b pc = .ok (.invokevirtual idx, 3)) (hq : pc + 3 = q) (hn0 : 102 ≤ n0 + a) (k : ∀ (z : Int) (w' : Mem), P z w' → G q ls (Vi z :: st) 102 (hp w')) : G pc ls (u1 :: Vr x :: st) 102 (hp w) := by
  refine gx_callV (As := [u1]) hG lk lc hE hrec hci hd' hn0 hst rfl hd hq (fun v h' z => ?_)
  obtain ⟨w', rfl, z, rfl, hz⟩ := z
  exact k _ _ hz
theorem gw_V1J (hG : Cx own b mL rt isI d a n0 Q G) {u1 : Value} {P : Int → Mem → Prop} {x : Int} {ci : Nat} {fs : List Value} (lk : LkV own idx y) (lc : LkC y b' mL' rt' 1) (hE : EvJ y b' mL' rt' d' (Vr x :: [u1]) w P) (hrec : hp w x = cO ci fs) (hci : (clsL[ci]?).map (fun r => r.1) = some y.cls) (hd' : d' < d) (hst : (st.map fun v => v.category).sum ≤ 8) (hd : decode b pc = .ok (.invokevirtual idx, 3)) (hq : pc + 3 = q) (hn0 : 102 ≤ n0 + a) (k : ∀ (z : Int) (w' : Mem), P z w' → G q ls (Vj z :: st) 102 (hp w')) : G pc ls (u1 :: Vr x :: st) 102 (hp w) := by
  refine gx_callV (As := [u1]) hG lk lc hE hrec hci hd' hn0 hst rfl hd hq (fun v h' z => ?_)
  obtain ⟨w', rfl, z, rfl, hz⟩ := z
  exact k _ _ hz
theorem gw_V1Y (hG : Cx own b mL rt isI d a n0 Q G) {u1 : Value} {P : Int → Prop} {x : Int} {ci : Nat} {fs : List Value} (lk : LkV own idx y) (lc : LkC y b' mL' rt' 1) (hE : EvY y b' mL' rt' d' (Vr x :: [u1]) w P) (hrec : hp w x = cO ci fs) (hci : (clsL[ci]?).map (fun r => r.1) = some y.cls) (hd' : d' < d) (hst : (st.map fun v => v.category).sum ≤ 8) (hd : decode b pc = .ok (.invokevirtual idx, 3)) (hq : pc + 3 = q) (hn0 : 102 ≤ n0 + a) (k : ∀ z : Int, P z → G q ls (Vi z :: st) 102 (hp w)) : G pc ls (u1 :: Vr x :: st) 102 (hp w) := by
  refine gx_callV (As := [u1]) hG lk lc hE hrec hci hd' hn0 hst rfl hd hq (fun v h' z => ?_)
  obtain ⟨w', rfl, z, rfl, rfl, hz⟩ := z
  exact k _ hz
theorem gw_V1Z (hG : Cx own b mL rt isI d a n0 Q G) {u1 : Value} {P : Int → Prop} {x : Int} {ci : Nat} {fs : List Value} (lk : LkV own idx y) (lc : LkC y b' mL' rt' 1) (hE : EvZ y b' mL' rt' d' (Vr x :: [u1]) w P) (hrec : hp w x = cO ci fs) (hci : (clsL[ci]?).map (fun r => r.1) = some y.cls) (hd' : d' < d) (hst : (st.map fun v => v.category).sum ≤ 8) (hd : decode b pc = .ok (.invokevirtual idx, 3)) (hq : pc + 3 = q) (hn0 : 102 ≤ n0 + a) (k : ∀ z : Int, P z → G q ls (Vj z :: st) 102 (hp w)) : G pc ls (u1 :: Vr x :: st) 102 (hp w) := by
  refine gx_callV (As := [u1]) hG lk lc hE hrec hci hd' hn0 hst rfl hd hq (fun v h' z => ?_)
  obtain ⟨w', rfl, z, rfl, rfl, hz⟩ := z
  exact k _ hz
theorem gw_V1V (hG : Cx own b mL rt isI d a n0 Q G) {u1 : Value} {P : Mem → Prop} {x : Int} {ci : Nat} {fs : List Value} (lk : LkV own idx y) (lc : LkC y b' mL' rt' 1) (hE : EvV y b' mL' rt' d' (Vr x :: [u1]) w P) (hrec : hp w x = cO ci fs) (hci : (clsL[ci]?).map (fun r => r.1) = some y.cls) (hd' : d' < d) (hst : (st.map fun v => v.category).sum ≤ 8) (hd : decode b pc = .ok (.invokevirtual idx, 3)) (hq : pc + 3 = q) (hn0 : 102 ≤ n0 + a) (k : ∀ w' : Mem, P w' → G q ls st 102 (hp w')) : G pc ls (u1 :: Vr x :: st) 102 (hp w) := by
  refine gx_callV (As := [u1]) hG lk lc hE hrec hci hd' hn0 hst rfl hd hq (fun v h' z => ?_)
  obtain ⟨w', rfl, rfl, hz⟩ := z
  exact k _ hz
theorem gw_V2X (hG : Cx own b mL rt isI d a n0 Q G) {u1 u2 : Value} {v : Value} {x : Int} {ci : Nat} {fs : List Value} (lk : LkV own idx y) (lc : LkC y b' mL' rt' 2) (hE : EvX y b' mL' rt' d' (Vr x :: [u1, u2]) w v) (hrec : hp w x = cO ci fs) (hci : (clsL[ci]?).map (fun r => r.1) = some y.cls) (hd' : d' < d) (hst : (st.map fun v => v.category).sum ≤ 8) (hd : decode b pc = .ok (.invokevirtual idx, 3)) (hq : pc + 3 = q) (hn0 : 102 ≤ n0 + a) (k : G q ls (v :: st) 102 (hp w)) : G pc ls (u2 :: u1 :: Vr x :: st) 102 (hp w) := by
  refine gx_callV (As := [u1, u2]) hG lk lc hE hrec hci hd' hn0 hst rfl hd hq (fun v h' z => ?_)
  obtain ⟨w', rfl, rfl, rfl⟩ := z
  exact k
theorem gw_V2I (hG : Cx own b mL rt isI d a n0 Q G) {u1 u2 : Value} {P : Int → Mem → Prop} {x : Int} {ci : Nat} {fs : List Value} (lk : LkV own idx y) (lc : LkC y b' mL' rt' 2) (hE : EvI y b' mL' rt' d' (Vr x :: [u1, u2]) w P) (hrec : hp w x = cO ci fs) (hci : (clsL[ci]?).map (fun r => r.1) = some y.cls) (hd' : d' < d) (hst : (st.map fun v => v.category).sum ≤ 8) (hd : decode b pc = .ok (.invokevirtual idx, 3)) (hq : pc + 3 = q) (hn0 : 102 ≤ n0 + a) (k : ∀ (z : Int) (w' : Mem), P z w' → G q ls (Vi z :: st) 102 (hp w')) : G pc ls (u2 :: u1 :: Vr x :: st) 102 (hp w) := by
  refine gx_callV (As := [u1, u2]) hG lk lc hE hrec hci hd' hn0 hst rfl hd hq (fun v h' z => ?_)
  obtain ⟨w', rfl, z, rfl, hz⟩ := z
  exact k _ _ hz
theorem gw_V2J (hG : Cx own b mL rt isI d a n0 Q G) {u1 u2 : Value} {P : Int → Mem → Prop} {x : Int} {ci : Nat} {fs : List Value} (lk : LkV own idx y) (lc : LkC y b' mL' rt' 2) (hE : EvJ y b' mL' rt' d' (Vr x :: [u1, u2]) w P) (hrec : hp w x = cO ci fs) (hci : (clsL[ci]?).map (fun r => r.1) = some y.cls) (hd' : d' < d) (hst : (st.map fun v => v.category).sum ≤ 8) (hd : decode b pc = .ok (.invokevirtual idx, 3)) (hq : pc + 3 = q) (hn0 : 102 ≤ n0 + a) (k : ∀ (z : Int) (w' : Mem), P z w' → G q ls (Vj z :: st) 102 (hp w')) : G pc ls (u2 :: u1 :: Vr x :: st) 102 (hp w) := by
  refine gx_callV (As := [u1, u2]) hG lk lc hE hrec hci hd' hn0 hst rfl hd hq (fun v h' z => ?_)
  obtain ⟨w', rfl, z, rfl, hz⟩ := z
  exact k _ _ hz
theorem gw_V2Y (hG : Cx own b mL rt isI d a n0 Q G) {u1 u2 : Value} {P : Int → Prop} {x : Int} {ci : Nat} {fs : List Value} (lk : LkV own idx y) (lc : LkC y b' mL' rt' 2) (hE : EvY y b' mL' rt' d' (Vr x :: [u1, u2]) w P) (hrec : hp w x = cO ci fs) (hci : (clsL[ci]?).map (fun r => r.1) = some y.cls) (hd' : d' < d) (hst : (st.map fun v => v.category).sum ≤ 8) (hd : decode b pc = .ok (.invokevirtual idx, 3)) (hq : pc + 3 = q) (hn0 : 102 ≤ n0 + a) (k : ∀ z : Int, P z → G q ls (Vi z :: st) 102 (hp w)) : G pc ls (u2 :: u1 :: Vr x :: st) 102 (hp w) := by
  refine gx_callV (As := [u1, u2]) hG lk lc hE hrec hci hd' hn0 hst rfl hd hq (fun v h' z => ?_)
  obtain ⟨w', rfl, z, rfl, rfl, hz⟩ := z
  exact k _ hz
theorem gw_V2Z (hG : Cx own b mL rt isI d a n0 Q G) {u1 u2 : Value} {P : Int → Prop} {x : Int} {ci : Nat} {fs : List Value} (lk : LkV own idx y) (lc : LkC y b' mL' rt' 2) (hE : EvZ y b' mL' rt' d' (Vr x :: [u1, u2]) w P) (hrec : hp w x = cO ci fs) (hci : (clsL[ci]?).map (fun r => r.1) = some y.cls) (hd' : d' < d) (hst : (st.map fun v => v.category).sum ≤ 8) (hd : decode b pc = .ok (.invokevirtual idx, 3)) (hq : pc + 3 = q) (hn0 : 102 ≤ n0 + a) (k : ∀ z : Int, P z → G q ls (Vj z :: st) 102 (hp w)) : G pc ls (u2 :: u1 :: Vr x :: st) 102 (hp w) := by
  refine gx_callV (As := [u1, u2]) hG lk lc hE hrec hci hd' hn0 hst rfl hd hq (fun v h' z => ?_)
  obtain ⟨w', rfl, z, rfl, rfl, hz⟩ := z
  exact k _ hz
theorem gw_V2V (hG : Cx own b mL rt isI d a n0 Q G) {u1 u2 : Value} {P : Mem → Prop} {x : Int} {ci : Nat} {fs : List Value} (lk : LkV own idx y) (lc : LkC y b' mL' rt' 2) (hE : EvV y b' mL' rt' d' (Vr x :: [u1, u2]) w P) (hrec : hp w x = cO ci fs) (hci : (clsL[ci]?).map (fun r => r.1) = some y.cls) (hd' : d' < d) (hst : (st.map fun v => v.category).sum ≤ 8) (hd : decode b pc = .ok (.invokevirtual idx, 3)) (hq : pc + 3 = q) (hn0 : 102 ≤ n0 + a) (k : ∀ w' : Mem, P w' → G q ls st 102 (hp w')) : G pc ls (u2 :: u1 :: Vr x :: st) 102 (hp w) := by
  refine gx_callV (As := [u1, u2]) hG lk lc hE hrec hci hd' hn0 hst rfl hd hq (fun v h' z => ?_)
  obtain ⟨w', rfl, rfl, hz⟩ := z
  exact k _ hz
theorem gw_V3X (hG : Cx own b mL rt isI d a n0 Q G) {u1 u2 u3 : Value} {v : Value} {x : Int} {ci : Nat} {fs : List Value} (lk : LkV own idx y) (lc : LkC y b' mL' rt' 3) (hE : EvX y b' mL' rt' d' (Vr x :: [u1, u2, u3]) w v) (hrec : hp w x = cO ci fs) (hci : (clsL[ci]?).map (fun r => r.1) = some y.cls) (hd' : d' < d) (hst : (st.map fun v => v.category).sum ≤ 8) (hd : decode b pc = .ok (.invokevirtual idx, 3)) (hq : pc + 3 = q) (hn0 : 102 ≤ n0 + a) (k : G q ls (v :: st) 102 (hp w)) : G pc ls (u3 :: u2 :: u1 :: Vr x :: st) 102 (hp w) := by
  refine gx_callV (As := [u1, u2, u3]) hG lk lc hE hrec hci hd' hn0 hst rfl hd hq (fun v h' z => ?_)
  obtain ⟨w', rfl, rfl, rfl⟩ := z
  exact k
theorem gw_V3I (hG : Cx own b mL rt isI d a n0 Q G) {u1 u2 u3 : Value} {P : Int → Mem → Prop} {x : Int} {ci : Nat} {fs : List Value} (lk : LkV own idx y) (lc : LkC y b' mL' rt' 3) (hE : EvI y b' mL' rt' d' (Vr x :: [u1, u2, u3]) w P) (hrec : hp w x = cO ci fs) (hci : (clsL[ci]?).map (fun r => r.1) = some y.cls) (hd' : d' < d) (hst : (st.map fun v => v.category).sum ≤ 8) (hd : decode b pc = .ok (.invokevirtual idx, 3)) (hq : pc + 3 = q) (hn0 : 102 ≤ n0 + a) (k : ∀ (z : Int) (w' : Mem), P z w' → G q ls (Vi z :: st) 102 (hp w')) : G pc ls (u3 :: u2 :: u1 :: Vr x :: st) 102 (hp w) := by
  refine gx_callV (As := [u1, u2, u3]) hG lk lc hE hrec hci hd' hn0 hst rfl hd hq (fun v h' z => ?_)
  obtain ⟨w', rfl, z, rfl, hz⟩ := z
  exact k _ _ hz
theorem gw_V3J (hG : Cx own b mL rt isI d a n0 Q G) {u1 u2 u3 : Value} {P : Int → Mem → Prop} {x : Int} {ci : Nat} {fs : List Value} (lk : LkV own idx y) (lc : LkC y b' mL' rt' 3) (hE : EvJ y b' mL' rt' d' (Vr x :: [u1, u2, u3]) w P) (hrec : hp w x = cO ci fs) (hci : (clsL[ci]?).map (fun r => r.1) = some y.cls) (hd' : d' < d) (hst : (st.map fun v => v.category).sum ≤ 8) (hd : decode b pc = .ok (.invokevirtual idx, 3)) (hq : pc + 3 = q) (hn0 : 102 ≤ n0 + a) (k : ∀ (z : Int) (w' : Mem), P z w' → G q ls (Vj z :: st) 102 (hp w')) : G pc ls (u3 :: u2 :: u1 :: Vr x :: st) 102 (hp w) := by
  refine gx_callV (As := [u1, u2, u3]) hG lk lc hE hrec hci hd' hn0 hst rfl hd hq (fun v h' z => ?_)
  obtain ⟨w', rfl, z, rfl, hz⟩ := z
  exact k _ _ hz
theorem gw_V3Y (hG : Cx own b mL rt isI d a n0 Q G) {u1 u2 u3 : Value} {P : Int → Prop} {x : Int} {ci : Nat} {fs : List Value} (lk : LkV own idx y) (lc : LkC y b' mL' rt' 3) (hE : EvY y b' mL' rt' d' (Vr x :: [u1, u2, u3]) w P) (hrec : hp w x = cO ci fs) (hci : (clsL[ci]?).map (fun r => r.1) = some y.cls) (hd' : d' < d) (hst : (st.map fun v => v.category).sum ≤ 8) (hd : decode b pc = .ok (.invokevirtual idx, 3)) (hq : pc + 3 = q) (hn0 : 102 ≤ n0 + a) (k : ∀ z : Int, P z → G q ls (Vi z :: st) 102 (hp w)) : G pc ls (u3 :: u2 :: u1 :: Vr x :: st) 102 (hp w) := by
  refine gx_callV (As := [u1, u2, u3]) hG lk lc hE hrec hci hd' hn0 hst rfl hd hq (fun v h' z => ?_)
  obtain ⟨w', rfl, z, rfl, rfl, hz⟩ := z
  exact k _ hz
theorem gw_V3Z (hG : Cx own b mL rt isI d a n0 Q G) {u1 u2 u3 : Value} {P : Int → Prop} {x : Int} {ci : Nat} {fs : List Value} (lk : LkV own idx y) (lc : LkC y b' mL' rt' 3) (hE : EvZ y b' mL' rt' d' (Vr x :: [u1, u2, u3]) w P) (hrec : hp w x = cO ci fs) (hci : (clsL[ci]?).map (fun r => r.1) = some y.cls) (hd' : d' < d) (hst : (st.map fun v => v.category).sum ≤ 8) (hd : decode b pc = .ok (.invokevirtual idx, 3)) (hq : pc + 3 = q) (hn0 : 102 ≤ n0 + a) (k : ∀ z : Int, P z → G q ls (Vj z :: st) 102 (hp w)) : G pc ls (u3 :: u2 :: u1 :: Vr x :: st) 102 (hp w) := by
  refine gx_callV (As := [u1, u2, u3]) hG lk lc hE hrec hci hd' hn0 hst rfl hd hq (fun v h' z => ?_)
  obtain ⟨w', rfl, z, rfl, rfl, hz⟩ := z
  exact k _ hz
theorem gw_V3V (hG : Cx own b mL rt isI d a n0 Q G) {u1 u2 u3 : Value} {P : Mem → Prop} {x : Int} {ci : Nat} {fs : List Value} (lk : LkV own idx y) (lc : LkC y b' mL' rt' 3) (hE : EvV y b' mL' rt' d' (Vr x :: [u1, u2, u3]) w P) (hrec : hp w x = cO ci fs) (hci : (clsL[ci]?).map (fun r => r.1) = some y.cls) (hd' : d' < d) (hst : (st.map fun v => v.category).sum ≤ 8) (hd : decode b pc = .ok (.invokevirtual idx, 3)) (hq : pc + 3 = q) (hn0 : 102 ≤ n0 + a) (k : ∀ w' : Mem, P w' → G q ls st 102 (hp w')) : G pc ls (u3 :: u2 :: u1 :: Vr x :: st) 102 (hp w) := by
  refine gx_callV (As := [u1, u2, u3]) hG lk lc hE hrec hci hd' hn0 hst rfl hd hq (fun v h' z => ?_)
  obtain ⟨w', rfl, rfl, hz⟩ := z
  exact k _ hz
theorem gw_V4X (hG : Cx own b mL rt isI d a n0 Q G) {u1 u2 u3 u4 : Value} {v : Value} {x : Int} {ci : Nat} {fs : List Value} (lk : LkV own idx y) (lc : LkC y b' mL' rt' 4) (hE : EvX y b' mL' rt' d' (Vr x :: [u1, u2, u3, u4]) w v) (hrec : hp w x = cO ci fs) (hci : (clsL[ci]?).map (fun r => r.1) = some y.cls) (hd' : d' < d) (hst : (st.map fun v => v.category).sum ≤ 8) (hd : decode b pc = .ok (.invokevirtual idx, 3)) (hq : pc + 3 = q) (hn0 : 102 ≤ n0 + a) (k : G q ls (v :: st) 102 (hp w)) : G pc ls (u4 :: u3 :: u2 :: u1 :: Vr x :: st) 102 (hp w) := by
  refine gx_callV (As := [u1, u2, u3, u4]) hG lk lc hE hrec hci hd' hn0 hst rfl hd hq (fun v h' z => ?_)
  obtain ⟨w', rfl, rfl, rfl⟩ := z
  exact k
theorem gw_V4I (hG : Cx own b mL rt isI d a n0 Q G) {u1 u2 u3 u4 : Value} {P : Int → Mem → Prop} {x : Int} {ci : Nat} {fs : List Value} (lk : LkV own idx y) (lc : LkC y b' mL' rt' 4) (hE : EvI y b' mL' rt' d' (Vr x :: [u1, u2, u3, u4]) w P) (hrec : hp w x = cO ci fs) (hci : (clsL[ci]?).map (fun r => r.1) = some y.cls) (hd' : d' < d) (hst : (st.map fun v => v.category).sum ≤ 8) (hd : decode b pc = .ok (.invokevirtual idx, 3)) (hq : pc + 3 = q) (hn0 : 102 ≤ n0 + a) (k : ∀ (z : Int) (w' : Mem), P z w' → G q ls (Vi z :: st) 102 (hp w')) : G pc ls (u4 :: u3 :: u2 :: u1 :: Vr x :: st) 102 (hp w) := by
  refine gx_callV (As := [u1, u2, u3, u4]) hG lk lc hE hrec hci hd' hn0 hst rfl hd hq (fun v h' z => ?_)
  obtain ⟨w', rfl, z, rfl, hz⟩ := z
  exact k _ _ hz
theorem gw_V4J (hG : Cx own b mL rt isI d a n0 Q G) {u1 u2 u3 u4 : Value} {P : Int → Mem → Prop} {x : Int} {ci : Nat} {fs : List Value} (lk : LkV own idx y) (lc : LkC y b' mL' rt' 4) (hE : EvJ y b' mL' rt' d' (Vr x :: [u1, u2, u3, u4]) w P) (hrec : hp w x = cO ci fs) (hci : (clsL[ci]?).map (fun r => r.1) = some y.cls) (hd' : d' < d) (hst : (st.map fun v => v.category).sum ≤ 8) (hd : decode b pc = .ok (.invokevirtual idx, 3)) (hq : pc + 3 = q) (hn0 : 102 ≤ n0 + a) (k : ∀ (z : Int) (w' : Mem), P z w' → G q ls (Vj z :: st) 102 (hp w')) : G pc ls (u4 :: u3 :: u2 :: u1 :: Vr x :: st) 102 (hp w) := by
  refine gx_callV (As := [u1, u2, u3, u4]) hG lk lc hE hrec hci hd' hn0 hst rfl hd hq (fun v h' z => ?_)
  obtain ⟨w', rfl, z, rfl, hz⟩ := z
  exact k _ _ hz
theorem gw_V4Y (hG : Cx own b mL rt isI d a n0 Q G) {u1 u2 u3 u4 : Value} {P : Int → Prop} {x : Int} {ci : Nat} {fs : List Value} (lk : LkV own idx y) (lc : LkC y b' mL' rt' 4) (hE : EvY y b' mL' rt' d' (Vr x :: [u1, u2, u3, u4]) w P) (hrec : hp w x = cO ci fs) (hci : (clsL[ci]?).map (fun r => r.1) = some y.cls) (hd' : d' < d) (hst : (st.map fun v => v.category).sum ≤ 8) (hd : decode b pc = .ok (.invokevirtual idx, 3)) (hq : pc + 3 = q) (hn0 : 102 ≤ n0 + a) (k : ∀ z : Int, P z → G q ls (Vi z :: st) 102 (hp w)) : G pc ls (u4 :: u3 :: u2 :: u1 :: Vr x :: st) 102 (hp w) := by
  refine gx_callV (As := [u1, u2, u3, u4]) hG lk lc hE hrec hci hd' hn0 hst rfl hd hq (fun v h' z => ?_)
  obtain ⟨w', rfl, z, rfl, rfl, hz⟩ := z
  exact k _ hz
theorem gw_V4Z (hG : Cx own b mL rt isI d a n0 Q G) {u1 u2 u3 u4 : Value} {P : Int → Prop} {x : Int} {ci : Nat} {fs : List Value} (lk : LkV own idx y) (lc : LkC y b' mL' rt' 4) (hE : EvZ y b' mL' rt' d' (Vr x :: [u1, u2, u3, u4]) w P) (hrec : hp w x = cO ci fs) (hci : (clsL[ci]?).map (fun r => r.1) = some y.cls) (hd' : d' < d) (hst : (st.map fun v => v.category).sum ≤ 8) (hd : decode b pc = .ok (.invokevirtual idx, 3)) (hq : pc + 3 = q) (hn0 : 102 ≤ n0 + a) (k : ∀ z : Int, P z → G q ls (Vj z :: st) 102 (hp w)) : G pc ls (u4 :: u3 :: u2 :: u1 :: Vr x :: st) 102 (hp w) := by
  refine gx_callV (As := [u1, u2, u3, u4]) hG lk lc hE hrec hci hd' hn0 hst rfl hd hq (fun v h' z => ?_)
  obtain ⟨w', rfl, z, rfl, rfl, hz⟩ := z
  exact k _ hz
theorem gw_V4V (hG : Cx own b mL rt isI d a n0 Q G) {u1 u2 u3 u4 : Value} {P : Mem → Prop} {x : Int} {ci : Nat} {fs : List Value} (lk : LkV own idx y) (lc : LkC y b' mL' rt' 4) (hE : EvV y b' mL' rt' d' (Vr x :: [u1, u2, u3, u4]) w P) (hrec : hp w x = cO ci fs) (hci : (clsL[ci]?).map (fun r => r.1) = some y.cls) (hd' : d' < d) (hst : (st.map fun v => v.category).sum ≤ 8) (hd : decode b pc = .ok (.invokevirtual idx, 3)) (hq : pc + 3 = q) (hn0 : 102 ≤ n0 + a) (k : ∀ w' : Mem, P w' → G q ls st 102 (hp w')) : G pc ls (u4 :: u3 :: u2 :: u1 :: Vr x :: st) 102 (hp w) := by
  refine gx_callV (As := [u1, u2, u3, u4]) hG lk lc hE hrec hci hd' hn0 hst rfl hd hq (fun v h' z => ?_)
  obtain ⟨w', rfl, rfl, hz⟩ := z
  exact k _ hz
theorem gw_V5X (hG : Cx own b mL rt isI d a n0 Q G) {u1 u2 u3 u4 u5 : Value} {v : Value} {x : Int} {ci : Nat} {fs : List Value} (lk : LkV own idx y) (lc : LkC y b' mL' rt' 5) (hE : EvX y b' mL' rt' d' (Vr x :: [u1, u2, u3, u4, u5]) w v) (hrec : hp w x = cO ci fs) (hci : (clsL[ci]?).map (fun r => r.1) = some y.cls) (hd' : d' < d) (hst : (st.map fun v => v.category).sum ≤ 8) (hd : decode b pc = .ok (.invokevirtual idx, 3)) (hq : pc + 3 = q) (hn0 : 102 ≤ n0 + a) (k : G q ls (v :: st) 102 (hp w)) : G pc ls (u5 :: u4 :: u3 :: u2 :: u1 :: Vr x :: st) 102 (hp w) := by
  refine gx_callV (As := [u1, u2, u3, u4, u5]) hG lk lc hE hrec hci hd' hn0 hst rfl hd hq (fun v h' z => ?_)
  obtain ⟨w', rfl, rfl, rfl⟩ := z
  exact k
theorem gw_V5I (hG : Cx own b mL rt isI d a n0 Q G) {u1 u2 u3 u4 u5 : Value} {P : Int → Mem → Prop} {x : Int} {ci : Nat} {fs : List Value} (lk : LkV own idx y) (lc : LkC y b' mL' rt' 5) (hE : EvI y b' mL' rt' d' (Vr x :: [u1, u2, u3, u4, u5]) w P) (hrec : hp w x = cO ci fs) (hci : (clsL[ci]?).map (fun r => r.1) = some y.cls) (hd' : d' < d) (hst : (st.map fun v => v.category).sum ≤ 8) (hd : decode b pc = .ok (.invokevirtual idx, 3)) (hq : pc + 3 = q) (hn0 : 102 ≤ n0 + a) (k : ∀ (z : Int) (w' : Mem), P z w' → G q ls (Vi z :: st) 102 (hp w')) : G pc ls (u5 :: u4 :: u3 :: u2 :: u1 :: Vr x :: st) 102 (hp w) := by
  refine gx_callV (As := [u1, u2, u3, u4, u5]) hG lk lc hE hrec hci hd' hn0 hst rfl hd hq (fun v h' z => ?_)
  obtain ⟨w', rfl, z, rfl, hz⟩ := z
  exact k _ _ hz
theorem gw_V5J (hG : Cx own b mL rt isI d a n0 Q G) {u1 u2 u3 u4 u5 : Value} {P : Int → Mem → Prop} {x : Int} {ci : Nat} {fs : List Value} (lk : LkV own idx y) (lc : LkC y b' mL' rt' 5) (hE : EvJ y b' mL' rt' d' (Vr x :: [u1, u2, u3, u4, u5]) w P) (hrec : hp w x = cO ci fs) (hci : (clsL[ci]?).map (fun r => r.1) = some y.cls) (hd' : d' < d) (hst : (st.map fun v => v.category).sum ≤ 8) (hd : decode b pc = .ok (.invokevirtual idx, 3)) (hq : pc + 3 = q) (hn0 : 102 ≤ n0 + a) (k : ∀ (z : Int) (w' : Mem), P z w' → G q ls (Vj z :: st) 102 (hp w')) : G pc ls (u5 :: u4 :: u3 :: u2 :: u1 :: Vr x :: st) 102 (hp w) := by
  refine gx_callV (As := [u1, u2, u3, u4, u5]) hG lk lc hE hrec hci hd' hn0 hst rfl hd hq (fun v h' z => ?_)
  obtain ⟨w', rfl, z, rfl, hz⟩ := z
  exact k _ _ hz
theorem gw_V5Y (hG : Cx own b mL rt isI d a n0 Q G) {u1 u2 u3 u4 u5 : Value} {P : Int → Prop} {x : Int} {ci : Nat} {fs : List Value} (lk : LkV own idx y) (lc : LkC y b' mL' rt' 5) (hE : EvY y b' mL' rt' d' (Vr x :: [u1, u2, u3, u4, u5]) w P) (hrec : hp w x = cO ci fs) (hci : (clsL[ci]?).map (fun r => r.1) = some y.cls) (hd' : d' < d) (hst : (st.map fun v => v.category).sum ≤ 8) (hd : decode b pc = .ok (.invokevirtual idx, 3)) (hq : pc + 3 = q) (hn0 : 102 ≤ n0 + a) (k : ∀ z : Int, P z → G q ls (Vi z :: st) 102 (hp w)) : G pc ls (u5 :: u4 :: u3 :: u2 :: u1 :: Vr x :: st) 102 (hp w) := by
  refine gx_callV (As := [u1, u2, u3, u4, u5]) hG lk lc hE hrec hci hd' hn0 hst rfl hd hq (fun v h' z => ?_)
  obtain ⟨w', rfl, z, rfl, rfl, hz⟩ := z
  exact k _ hz
theorem gw_V5Z (hG : Cx own b mL rt isI d a n0 Q G) {u1 u2 u3 u4 u5 : Value} {P : Int → Prop} {x : Int} {ci : Nat} {fs : List Value} (lk : LkV own idx y) (lc : LkC y b' mL' rt' 5) (hE : EvZ y b' mL' rt' d' (Vr x :: [u1, u2, u3, u4, u5]) w P) (hrec : hp w x = cO ci fs) (hci : (clsL[ci]?).map (fun r => r.1) = some y.cls) (hd' : d' < d) (hst : (st.map fun v => v.category).sum ≤ 8) (hd : decode b pc = .ok (.invokevirtual idx, 3)) (hq : pc + 3 = q) (hn0 : 102 ≤ n0 + a) (k : ∀ z : Int, P z → G q ls (Vj z :: st) 102 (hp w)) : G pc ls (u5 :: u4 :: u3 :: u2 :: u1 :: Vr x :: st) 102 (hp w) := by
  refine gx_callV (As := [u1, u2, u3, u4, u5]) hG lk lc hE hrec hci hd' hn0 hst rfl hd hq (fun v h' z => ?_)
  obtain ⟨w', rfl, z, rfl, rfl, hz⟩ := z
  exact k _ hz
theorem gw_V5V (hG : Cx own b mL rt isI d a n0 Q G) {u1 u2 u3 u4 u5 : Value} {P : Mem → Prop} {x : Int} {ci : Nat} {fs : List Value} (lk : LkV own idx y) (lc : LkC y b' mL' rt' 5) (hE : EvV y b' mL' rt' d' (Vr x :: [u1, u2, u3, u4, u5]) w P) (hrec : hp w x = cO ci fs) (hci : (clsL[ci]?).map (fun r => r.1) = some y.cls) (hd' : d' < d) (hst : (st.map fun v => v.category).sum ≤ 8) (hd : decode b pc = .ok (.invokevirtual idx, 3)) (hq : pc + 3 = q) (hn0 : 102 ≤ n0 + a) (k : ∀ w' : Mem, P w' → G q ls st 102 (hp w')) : G pc ls (u5 :: u4 :: u3 :: u2 :: u1 :: Vr x :: st) 102 (hp w) := by
  refine gx_callV (As := [u1, u2, u3, u4, u5]) hG lk lc hE hrec hci hd' hn0 hst rfl hd hq (fun v h' z => ?_)
  obtain ⟨w', rfl, rfl, hz⟩ := z
  exact k _ hz
theorem gw_O0X (hG : Cx own b mL rt isI d a n0 Q G) {v : Value} {x : Int} {ci : Nat} {fs : List Value} {xm : MethodName} {C : String} (lk : LkO own idx xm C y 0) (lc : LkC y b' mL' rt' 0) (hE : EvX y b' mL' rt' d' (Vr x :: []) w v) (hrec : hp w x = cO ci fs) (hci : (clsL[ci]?).map (fun r => r.1) = some C) (hd' : d' < d) (hst : (st.map fun v => v.category).sum ≤ 8) (hd : decode b pc = .ok (.invokevirtual idx, 3)) (hq : pc + 3 = q) (hn0 : 102 ≤ n0 + a) (k : G q ls (v :: st) 102 (hp w)) : G pc ls (Vr x :: st) 102 (hp w) := by
  refine gx_callO (As := []) hG lk lc hE hrec hci hd' hn0 hst rfl hd hq (fun v h' z => ?_)
  obtain ⟨w', rfl, rfl, rfl⟩ := z
  exact k
theorem gw_O0I (hG : Cx own b mL rt isI d a n0 Q G) {P : Int → Mem → Prop} {x : Int} {ci : Nat} {fs : List Value} {xm : MethodName} {C : String} (lk : LkO own idx xm C y 0) (lc : LkC y b' mL' rt' 0) (hE : EvI y b' mL' rt' d' (Vr x :: []) w P) (hrec : hp w x = cO ci fs) (hci : (clsL[ci]?).map (fun r => r.1) = some C) (hd' : d' < d) (hst : (st.map fun v => v.category).sum ≤ 8) (hd : decode b pc = .ok (.invokevirtual idx, 3)) (hq : pc + 3 = q) (hn0 : 102 ≤ n0 + a) (k : ∀ (z : Int) (w' : Mem), P z w' → G q ls (Vi z :: st) 102 (hp w')) : G pc ls (Vr x :: st) 102 (hp w) := by
  refine gx_callO (As := []) hG lk lc hE hrec hci hd' hn0 hst rfl hd hq (fun v h' z => ?_)
  obtain ⟨w', rfl, z, rfl, hz⟩ := z
  exact k _ _ hz
theorem gw_O0J (hG : Cx own b mL rt isI d a n0 Q G) {P : Int → Mem → Prop} {x : Int} {ci : Nat} {fs : List Value} {xm : MethodName} {C : String} (lk : LkO own idx xm C y 0) (lc : LkC y b' mL' rt' 0) (hE : EvJ y b' mL' rt' d' (Vr x :: []) w P) (hrec : hp w x = cO ci fs) (hci : (clsL[ci]?).map (fun r => r.1) = some C) (hd' : d' < d) (hst : (st.map fun v => v.category).sum ≤ 8) (hd : decode b pc = .ok (.invokevirtual idx, 3)) (hq : pc + 3 = q) (hn0 : 102 ≤ n0 + a) (k : ∀ (z : Int) (w' : Mem), P z w' → G q ls (Vj z :: st) 102 (hp w')) : G pc ls (Vr x :: st) 102 (hp w) := by
  refine gx_callO (As := []) hG lk lc hE hrec hci hd' hn0 hst rfl hd hq (fun v h' z => ?_)
  obtain ⟨w', rfl, z, rfl, hz⟩ := z
  exact k _ _ hz
theorem gw_O0Y (hG : Cx own b mL rt isI d a n0 Q G) {P : Int → Prop} {x : Int} {ci : Nat} {fs : List Value} {xm : MethodName} {C : String} (lk : LkO own idx xm C y 0) (lc : LkC y b' mL' rt' 0) (hE : EvY y b' mL' rt' d' (Vr x :: []) w P) (hrec : hp w x = cO ci fs) (hci : (clsL[ci]?).map (fun r => r.1) = some C) (hd' : d' < d) (hst : (st.map fun v => v.category).sum ≤ 8) (hd : decode b pc = .ok (.invokevirtual idx, 3)) (hq : pc + 3 = q) (hn0 : 102 ≤ n0 + a) (k : ∀ z : Int, P z → G q ls (Vi z :: st) 102 (hp w)) : G pc ls (Vr x :: st) 102 (hp w) := by
  refine gx_callO (As := []) hG lk lc hE hrec hci hd' hn0 hst rfl hd hq (fun v h' z => ?_)
  obtain ⟨w', rfl, z, rfl, rfl, hz⟩ := z
  exact k _ hz
theorem gw_O0Z (hG : Cx own b mL rt isI d a n0 Q G) {P : Int → Prop} {x : Int} {ci : Nat} {fs : List Value} {xm : MethodName} {C : String} (lk : LkO own idx xm C y 0) (lc : LkC y b' mL' rt' 0) (hE : EvZ y b' mL' rt' d' (Vr x :: []) w P) (hrec : hp w x = cO ci fs) (hci : (clsL[ci]?).map (fun r => r.1) = some C) (hd' : d' < d) (hst : (st.map fun v => v.category).sum ≤ 8) (hd : decode b pc = .ok (.invokevirtual idx, 3)) (hq : pc + 3 = q) (hn0 : 102 ≤ n0 + a) (k : ∀ z : Int, P z → G q ls (Vj z :: st) 102 (hp w)) : G pc ls (Vr x :: st) 102 (hp w) := by
  refine gx_callO (As := []) hG lk lc hE hrec hci hd' hn0 hst rfl hd hq (fun v h' z => ?_)
  obtain ⟨w', rfl, z, rfl, rfl, hz⟩ := z
  exact k _ hz
theorem gw_O0V (hG : Cx own b mL rt isI d a n0 Q G) {P : Mem → Prop} {x : Int} {ci : Nat} {fs : List Value} {xm : MethodName} {C : String} (lk : LkO own idx xm C y 0) (lc : LkC y b' mL' rt' 0) (hE : EvV y b' mL' rt' d' (Vr x :: []) w P) (hrec : hp w x = cO ci fs) (hci : (clsL[ci]?).map (fun r => r.1) = some C) (hd' : d' < d) (hst : (st.map fun v => v.category).sum ≤ 8) (hd : decode b pc = .ok (.invokevirtual idx, 3)) (hq : pc + 3 = q) (hn0 : 102 ≤ n0 + a) (k : ∀ w' : Mem, P w' → G q ls st 102 (hp w')) : G pc ls (Vr x :: st) 102 (hp w) := by
  refine gx_callO (As := []) hG lk lc hE hrec hci hd' hn0 hst rfl hd hq (fun v h' z => ?_)
  obtain ⟨w', rfl, rfl, hz⟩ := z
  exact k _ hz
theorem gw_O1X (hG : Cx own b mL rt isI d a n0 Q G) {u1 : Value} {v : Value} {x : Int} {ci : Nat} {fs : List Value} {xm : MethodName} {C : String} (lk : LkO own idx xm C y 1) (lc : LkC y b' mL' rt' 1) (hE : EvX y b' mL' rt' d' (Vr x :: [u1]) w v) (hrec : hp w x = cO ci fs) (hci : (clsL[ci]?).map (fun r => r.1) = some C) (hd' : d' < d) (hst : (st.map fun v => v.category).sum ≤ 8) (hd : decode b pc = .ok (.invokevirtual idx, 3)) (hq : pc + 3 = q) (hn0 : 102 ≤ n0 + a) (k : G q ls (v :: st) 102 (hp w)) : G pc ls (u1 :: Vr x :: st) 102 (hp w) := by
  refine gx_callO (As := [u1]) hG lk lc hE hrec hci hd' hn0 hst rfl hd hq (fun v h' z => ?_)
  obtain ⟨w', rfl, rfl, rfl⟩ := z
  exact k
theorem gw_O1I (hG : Cx own b mL rt isI d a n0 Q G) {u1 : Value} {P : Int → Mem → Prop} {x : Int} {ci : Nat} {fs : List Value} {xm : MethodName} {C : String} (lk : LkO own idx xm C y 1) (lc : LkC y b' mL' rt' 1) (hE : EvI y b' mL' rt' d' (Vr x :: [u1]) w P) (hrec : hp w x = cO ci fs) (hci : (clsL[ci]?).map (fun r => r.1) = some C) (hd' : d' < d) (hst : (st.map fun v => v.category).sum ≤ 8) (hd : decode b pc = .ok (.invokevirtual idx, 3)) (hq : pc + 3 = q) (hn0 : 102 ≤ n0 + a) (k : ∀ (z : Int) (w' : Mem), P z w' → G q ls (Vi z :: st) 102 (hp w')) : G pc ls (u1 :: Vr x :: st) 102 (hp w) := by
  refine gx_callO (As := [u1]) hG lk lc hE hrec hci hd' hn0 hst rfl hd hq (fun v h' z => ?_)
  obtain ⟨w', rfl, z, rfl, hz⟩ := z
  exact k _ _ hz
theorem gw_O1J (hG : Cx own b mL rt isI d a n0 Q G) {u1 : Value} {P : Int → Mem → Prop} {x : Int} {ci : Nat} {fs : List Value} {xm : MethodName} {C : String} (lk : LkO own idx xm C y 1) (lc : LkC y b' mL' rt' 1) (hE : EvJ y b' mL' rt' d' (Vr x :: [u1]) w P) (hrec : hp w x = cO ci fs) (hci : (clsL[ci]?).map (fun r => r.1) = some C) (hd' : d' < d) (hst : (st.map fun v => v.category).sum ≤ 8) (hd : decode b pc = .ok (.invokevirtual idx, 3)) (hq : pc + 3 = q) (hn0 : 102 ≤ n0 + a) (k : ∀ (z : Int) (w' : Mem), P z w' → G q ls (Vj z :: st) 102 (hp w')) : G pc ls (u1 :: Vr x :: st) 102 (hp w) := by
  refine gx_callO (As := [u1]) hG lk lc hE hrec hci hd' hn0 hst rfl hd hq (fun v h' z => ?_)
  obtain ⟨w', rfl, z, rfl, hz⟩ := z
  exact k _ _ hz
theorem gw_O1Y (hG : Cx own b mL rt isI d a n0 Q G) {u1 : Value} {P : Int → Prop} {x : Int} {ci : Nat} {fs : List Value} {xm : MethodName} {C : String} (lk : LkO own idx xm C y 1) (lc : LkC y b' mL' rt' 1) (hE : EvY y b' mL' rt' d' (Vr x :: [u1]) w P) (hrec : hp w x = cO ci fs) (hci : (clsL[ci]?).map (fun r => r.1) = some C) (hd' : d' < d) (hst : (st.map fun v => v.category).sum ≤ 8) (hd : decode b pc = .ok (.invokevirtual idx, 3)) (hq : pc + 3 = q) (hn0 : 102 ≤ n0 + a) (k : ∀ z : Int, P z → G q ls (Vi z :: st) 102 (hp w)) : G pc ls (u1 :: Vr x :: st) 102 (hp w) := by
  refine gx_callO (As := [u1]) hG lk lc hE hrec hci hd' hn0 hst rfl hd hq (fun v h' z => ?_)
  obtain ⟨w', rfl, z, rfl, rfl, hz⟩ := z
  exact k _ hz
theorem gw_O1Z (hG : Cx own b mL rt isI d a n0 Q G) {u1 : Value} {P : Int → Prop} {x : Int} {ci : Nat} {fs : List Value} {xm : MethodName} {C : String} (lk : LkO own idx xm C y 1) (lc : LkC y b' mL' rt' 1) (hE : EvZ y b' mL' rt' d' (Vr x :: [u1]) w P) (hrec : hp w x = cO ci fs) (hci : (clsL[ci]?).map (fun r => r.1) = some C) (hd' : d' < d) (hst : (st.map fun v => v.category).sum ≤ 8) (hd : decode b pc = .ok (.invokevirtual idx, 3)) (hq : pc + 3 = q) (hn0 : 102 ≤ n0 + a) (k : ∀ z : Int, P z → G q ls (Vj z :: st) 102 (hp w)) : G pc ls (u1 :: Vr x :: st) 102 (hp w) := by
  refine gx_callO (As := [u1]) hG lk lc hE hrec hci hd' hn0 hst rfl hd hq (fun v h' z => ?_)
  obtain ⟨w', rfl, z, rfl, rfl, hz⟩ := z
  exact k _ hz
theorem gw_O1V (hG : Cx own b mL rt isI d a n0 Q G) {u1 : Value} {P : Mem → Prop} {x : Int} {ci : Nat} {fs : List Value} {xm : MethodName} {C : String} (lk : LkO own idx xm C y 1) (lc : LkC y b' mL' rt' 1) (hE : EvV y b' mL' rt' d' (Vr x :: [u1]) w P) (hrec : hp w x = cO ci fs) (hci : (clsL[ci]?).map (fun r => r.1) = some C) (hd' : d' < d) (hst : (st.map fun v => v.category).sum ≤ 8) (hd : decode b pc = .ok (.invokevirtual idx, 3)) (hq : pc + 3 = q) (hn0 : 102 ≤ n0 + a) (k : ∀ w' : Mem, P w' → G q ls st 102 (hp w')) : G pc ls (u1 :: Vr x :: st) 102 (hp w) := by
  refine gx_callO (As := [u1]) hG lk lc hE hrec hci hd' hn0 hst rfl hd hq (fun v h' z => ?_)
  obtain ⟨w', rfl, rfl, hz⟩ := z
  exact k _ hz
theorem gw_O2X (hG : Cx own b mL rt isI d a n0 Q G) {u1 u2 : Value} {v : Value} {x : Int} {ci : Nat} {fs : List Value} {xm : MethodName} {C : String} (lk : LkO own idx xm C y 2) (lc : LkC y b' mL' rt' 2) (hE : EvX y b' mL' rt' d' (Vr x :: [u1, u2]) w v) (hrec : hp w x = cO ci fs) (hci : (clsL[ci]?).map (fun r => r.1) = some C) (hd' : d' < d) (hst : (st.map fun v => v.category).sum ≤ 8) (hd : decode b pc = .ok (.invokevirtual idx, 3)) (hq : pc + 3 = q) (hn0 : 102 ≤ n0 + a) (k : G q ls (v :: st) 102 (hp w)) : G pc ls (u2 :: u1 :: Vr x :: st) 102 (hp w) := by
  refine gx_callO (As := [u1, u2]) hG lk lc hE hrec hci hd' hn0 hst rfl hd hq (fun v h' z => ?_)
  obtain ⟨w', rfl, rfl, rfl⟩ := z
  exact k
theorem gw_O2I (hG : Cx own b mL rt isI d a n0 Q G) {u1 u2 : Value} {P : Int → Mem → Prop} {x : Int} {ci : Nat} {fs : List Value} {xm : MethodName} {C : String} (lk : LkO own idx xm C y 2) (lc : LkC y b' mL' rt' 2) (hE : EvI y b' mL' rt' d' (Vr x :: [u1, u2]) w P) (hrec : hp w x = cO ci fs) (hci : (clsL[ci]?).map (fun r => r.1) = some C) (hd' : d' < d) (hst : (st.map fun v => v.category).sum ≤ 8) (hd : decode b pc = .ok (.invokevirtual idx, 3)) (hq : pc + 3 = q) (hn0 : 102 ≤ n0 + a) (k : ∀ (z : Int) (w' : Mem), P z w' → G q ls (Vi z :: st) 102 (hp w')) : G pc ls (u2 :: u1 :: Vr x :: st) 102 (hp w) := by
  refine gx_callO (As := [u1, u2]) hG lk lc hE hrec hci hd' hn0 hst rfl hd hq (fun v h' z => ?_)
  obtain ⟨w', rfl, z, rfl, hz⟩ := z
  exact k _ _ hz
theorem gw_O2J (hG : Cx own b mL rt isI d a n0 Q G) {u1 u2 : Value} {P : Int → Mem → Prop} {x : Int} {ci : Nat} {fs : List Value} {xm : MethodName} {C : String} (lk : LkO own idx xm C y 2) (lc : LkC y b' mL' rt' 2) (hE : EvJ y b' mL' rt' d' (Vr x :: [u1, u2]) w P) (hrec : hp w x = cO ci fs) (hci : (clsL[ci]?).map (fun r => r.1) = some C) (hd' : d' < d) (hst : (st.map fun v => v.category).sum ≤ 8) (hd : decode b pc = .ok (.invokevirtual idx, 3)) (hq : pc + 3 = q) (hn0 : 102 ≤ n0 + a) (k : ∀ (z : Int) (w' : Mem), P z w' → G q ls (Vj z :: st) 102 (hp w')) : G pc ls (u2 :: u1 :: Vr x :: st) 102 (hp w) := by
  refine gx_callO (As := [u1, u2]) hG lk lc hE hrec hci hd' hn0 hst rfl hd hq (fun v h' z => ?_)
  obtain ⟨w', rfl, z, rfl, hz⟩ := z
  exact k _ _ hz
theorem gw_O2Y (hG : Cx own b mL rt isI d a n0 Q G) {u1 u2 : Value} {P : Int → Prop} {x : Int} {ci : Nat} {fs : List Value} {xm : MethodName} {C : String} (lk : LkO own idx xm C y 2) (lc : LkC y b' mL' rt' 2) (hE : EvY y b' mL' rt' d' (Vr x :: [u1, u2]) w P) (hrec : hp w x = cO ci fs) (hci : (clsL[ci]?).map (fun r => r.1) = some C) (hd' : d' < d) (hst : (st.map fun v => v.category).sum ≤ 8) (hd : decode b pc = .ok (.invokevirtual idx, 3)) (hq : pc + 3 = q) (hn0 : 102 ≤ n0 + a) (k : ∀ z : Int, P z → G q ls (Vi z :: st) 102 (hp w)) : G pc ls (u2 :: u1 :: Vr x :: st) 102 (hp w) := by
  refine gx_callO (As := [u1, u2]) hG lk lc hE hrec hci hd' hn0 hst rfl hd hq (fun v h' z => ?_)
  obtain ⟨w', rfl, z, rfl, rfl, hz⟩ := z
  exact k _ hz
theorem gw_O2Z (hG : Cx own b mL rt isI d a n0 Q G) {u1 u2 : Value} {P : Int → Prop} {x : Int} {ci : Nat} {fs : List Value} {xm : MethodName} {C : String} (lk : LkO own idx xm C y 2) (lc : LkC y b' mL' rt' 2) (hE : EvZ y b' mL' rt' d' (Vr x :: [u1, u2]) w P) (hrec : hp w x = cO ci fs) (hci : (clsL[ci]?).map (fun r => r.1) = some C) (hd' : d' < d) (hst : (st.map fun v => v.category).sum ≤ 8) (hd : decode b pc = .ok (.invokevirtual idx, 3)) (hq : pc + 3 = q) (hn0 : 102 ≤ n0 + a) (k : ∀ z : Int, P z → G q ls (Vj z :: st) 102 (hp w)) : G pc ls (u2 :: u1 :: Vr x :: st) 102 (hp w) := by
  refine gx_callO (As := [u1, u2]) hG lk lc hE hrec hci hd' hn0 hst rfl hd hq (fun v h' z => ?_)
  obtain ⟨w', rfl, z, rfl, rfl, hz⟩ := z
  exact k _ hz
theorem gw_O2V (hG : Cx own b mL rt isI d a n0 Q G) {u1 u2 : Value} {P : Mem → Prop} {x : Int} {ci : Nat} {fs : List Value} {xm : MethodName} {C : String} (lk : LkO own idx xm C y 2) (lc : LkC y b' mL' rt' 2) (hE : EvV y b' mL' rt' d' (Vr x :: [u1, u2]) w P) (hrec : hp w x = cO ci fs) (hci : (clsL[ci]?).map (fun r => r.1) = some C) (hd' : d' < d) (hst : (st.map fun v => v.category).sum ≤ 8) (hd : decode b pc = .ok (.invokevirtual idx, 3)) (hq : pc + 3 = q) (hn0 : 102 ≤ n0 + a) (k : ∀ w' : Mem, P w' → G q ls st 102 (hp w')) : G pc ls (u2 :: u1 :: Vr x :: st) 102 (hp w) := by
  refine gx_callO (As := [u1, u2]) hG lk lc hE hrec hci hd' hn0 hst rfl hd hq (fun v h' z => ?_)
  obtain ⟨w', rfl, rfl, hz⟩ := z
  exact k _ hz
theorem gw_O3X (hG : Cx own b mL rt isI d a n0 Q G) {u1 u2 u3 : Value} {v : Value} {x : Int} {ci : Nat} {fs : List Value} {xm : MethodName} {C : String} (lk : LkO own idx xm C y 3) (lc : LkC y b' mL' rt' 3) (hE : EvX y b' mL' rt' d' (Vr x :: [u1, u2, u3]) w v) (hrec : hp w x = cO ci fs) (hci : (clsL[ci]?).map (fun r => r.1) = some C) (hd' : d' < d) (hst : (st.map fun v => v.category).sum ≤ 8) (hd : decode b pc = .ok (.invokevirtual idx, 3)) (hq : pc + 3 = q) (hn0 : 102 ≤ n0 + a) (k : G q ls (v :: st) 102 (hp w)) : G pc ls (u3 :: u2 :: u1 :: Vr x :: st) 102 (hp w) := by
  refine gx_callO (As := [u1, u2, u3]) hG lk lc hE hrec hci hd' hn0 hst rfl hd hq (fun v h' z => ?_)
  obtain ⟨w', rfl, rfl, rfl⟩ := z
  exact k
theorem gw_O3I (hG : Cx own b mL rt isI d a n0 Q G) {u1 u2 u3 : Value} {P : Int → Mem → Prop} {x : Int} {ci : Nat} {fs : List Value} {xm : MethodName} {C : String} (lk : LkO own idx xm C y 3) (lc : LkC y b' mL' rt' 3) (hE : EvI y b' mL' rt' d' (Vr x :: [u1, u2, u3]) w P) (hrec : hp w x = cO ci fs) (hci : (clsL[ci]?).map (fun r => r.1) = some C) (hd' : d' < d) (hst : (st.map fun v => v.category).sum ≤ 8) (hd : decode b pc = .ok (.invokevirtual idx, 3)) (hq : pc + 3 = q) (hn0 : 102 ≤ n0 + a) (k : ∀ (z : Int) (w' : Mem), P z w' → G q ls (Vi z :: st) 102 (hp w')) : G pc ls (u3 :: u2 :: u1 :: Vr x :: st) 102 (hp w) := by
  refine gx_callO (As := [u1, u2, u3]) hG lk lc hE hrec hci hd' hn0 hst rfl hd hq (fun v h' z => ?_)
  obtain ⟨w', rfl, z, rfl, hz⟩ := z
  exact k _ _ hz
theorem gw_O3J (hG : Cx own b mL rt isI d a n0 Q G) {u1 u2 u3 : Value} {P : Int → Mem → Prop} {x : Int} {ci : Nat} {fs : List Value} {xm : MethodName} {C : String} (lk : LkO own idx xm C y 3) (lc : LkC y b' mL' rt' 3) (hE : EvJ y b' mL' rt' d' (Vr x :: [u1, u2, u3]) w P) (hrec : hp w x = cO ci fs) (hci : (clsL[ci]?).map (fun r => r.1) = some C) (hd' : d' < d) (hst : (st.map fun v => v.category).sum ≤ 8) (hd : decode b pc = .ok (.invokevirtual idx, 3)) (hq : pc + 3 = q) (hn0 : 102 ≤ n0 + a) (k : ∀ (z : Int) (w' : Mem), P z w' → G q ls (Vj z :: st) 102 (hp w')) : G pc ls (u3 :: u2 :: u1 :: Vr x :: st) 102 (hp w) := by
  refine gx_callO (As := [u1, u2, u3]) hG lk lc hE hrec hci hd' hn0 hst rfl hd hq (fun v h' z => ?_)
  obtain ⟨w', rfl, z, rfl, hz⟩ := z
  exact k _ _ hz
theorem gw_O3Y (hG : Cx own b mL rt isI d a n0 Q G) {u1 u2 u3 : Value} {P : Int → Prop} {x : Int} {ci : Nat} {fs : List Value} {xm : MethodName} {C : String} (lk : LkO own idx xm C y 3) (lc : LkC y b' mL' rt' 3) (hE : EvY y b' mL' rt' d' (Vr x :: [u1, u2, u3]) w P) (hrec : hp w x = cO ci fs) (hci : (clsL[ci]?).map (fun r => r.1) = some C) (hd' : d' < d) (hst : (st.map fun v => v.category).sum ≤ 8) (hd : decode b pc = .ok (.invokevirtual idx, 3)) (hq : pc + 3 = q) (hn0 : 102 ≤ n0 + a) (k : ∀ z : Int, P z → G q ls (Vi z :: st) 102 (hp w)) : G pc ls (u3 :: u2 :: u1 :: Vr x :: st) 102 (hp w) := by
  refine gx_callO (As := [u1, u2, u3]) hG lk lc hE hrec hci hd' hn0 hst rfl hd hq (fun v h' z => ?_)
  obtain ⟨w', rfl, z, rfl, rfl, hz⟩ := z
  exact k _ hz
theorem gw_O3Z (hG : Cx own b mL rt isI d a n0 Q G) {u1 u2 u3 : Value} {P : Int → Prop} {x : Int} {ci : Nat} {fs : List Value} {xm : MethodName} {C : String} (lk : LkO own idx xm C y 3) (lc : LkC y b' mL' rt' 3) (hE : EvZ y b' mL' rt' d' (Vr x :: [u1, u2, u3]) w P) (hrec : hp w x = cO ci fs) (hci : (clsL[ci]?).map (fun r => r.1) = some C) (hd' : d' < d) (hst : (st.map fun v => v.category).sum ≤ 8) (hd : decode b pc = .ok (.invokevirtual idx, 3)) (hq : pc + 3 = q) (hn0 : 102 ≤ n0 + a) (k : ∀ z : Int, P z → G q ls (Vj z :: st) 102 (hp w)) : G pc ls (u3 :: u2 :: u1 :: Vr x :: st) 102 (hp w) := by
  refine gx_callO (As := [u1, u2, u3]) hG lk lc hE hrec hci hd' hn0 hst rfl hd hq (fun v h' z => ?_)
  obtain ⟨w', rfl, z, rfl, rfl, hz⟩ := z
  exact k _ hz
theorem gw_O3V (hG : Cx own b mL rt isI d a n0 Q G) {u1 u2 u3 : Value} {P : Mem → Prop} {x : Int} {ci : Nat} {fs : List Value} {xm : MethodName} {C : String} (lk : LkO own idx xm C y 3) (lc : LkC y b' mL' rt' 3) (hE : EvV y b' mL' rt' d' (Vr x :: [u1, u2, u3]) w P) (hrec : hp w x = cO ci fs) (hci : (clsL[ci]?).map (fun r => r.1) = some C) (hd' : d' < d) (hst : (st.map fun v => v.category).sum ≤ 8) (hd : decode b pc = .ok (.invokevirtual idx, 3)) (hq : pc + 3 = q) (hn0 : 102 ≤ n0 + a) (k : ∀ w' : Mem, P w' → G q ls st 102 (hp w')) : G pc ls (u3 :: u2 :: u1 :: Vr x :: st) 102 (hp w) := by
  refine gx_callO (As := [u1, u2, u3]) hG lk lc hE hrec hci hd' hn0 hst rfl hd hq (fun v h' z => ?_)
  obtain ⟨w', rfl, rfl, hz⟩ := z
  exact k _ hz
theorem gw_O4X (hG : Cx own b mL rt isI d a n0 Q G) {u1 u2 u3 u4 : Value} {v : Value} {x : Int} {ci : Nat} {fs : List Value} {xm : MethodName} {C : String} (lk : LkO own idx xm C y 4) (lc : LkC y b' mL' rt' 4) (hE : EvX y b' mL' rt' d' (Vr x :: [u1, u2, u3, u4]) w v) (hrec : hp w x = cO ci fs) (hci : (clsL[ci]?).map (fun r => r.1) = some C) (hd' : d' < d) (hst : (st.map fun v => v.category).sum ≤ 8) (hd : decode b pc = .ok (.invokevirtual idx, 3)) (hq : pc + 3 = q) (hn0 : 102 ≤ n0 + a) (k : G q ls (v :: st) 102 (hp w)) : G pc ls (u4 :: u3 :: u2 :: u1 :: Vr x :: st) 102 (hp w) := by
  refine gx_callO (As := [u1, u2, u3, u4]) hG lk lc hE hrec hci hd' hn0 hst rfl hd hq (fun v h' z => ?_)
  obtain ⟨w', rfl, rfl, rfl⟩ := z
  exact k
theorem gw_O4I (hG : Cx own b mL rt isI d a n0 Q G) {u1 u2 u3 u4 : Value} {P : Int → Mem → Prop} {x : Int} {ci : Nat} {fs : List Value} {xm : MethodName} {C : String} (lk : LkO own idx xm C y 4) (lc : LkC y b' mL' rt' 4) (hE : EvI y b' mL' rt' d' (Vr x :: [u1, u2, u3, u4]) w P) (hrec : hp w x = cO ci fs) (hci : (clsL[ci]?).map (fun r => r.1) = some C) (hd' : d' < d) (hst : (st.map fun v => v.category).sum ≤ 8) (hd : decode b pc = .ok (.invokevirtual idx, 3)) (hq : pc + 3 = q) (hn0 : 102 ≤ n0 + a) (k : ∀ (z : Int) (w' : Mem), P z w' → G q ls (Vi z :: st) 102 (hp w')) : G pc ls (u4 :: u3 :: u2 :: u1 :: Vr x :: st) 102 (hp w) := by
  refine gx_callO (As := [u1, u2, u3, u4]) hG lk lc hE hrec hci hd' hn0 hst rfl hd hq (fun v h' z => ?_)
  obtain ⟨w', rfl, z, rfl, hz⟩ := z
  exact k _ _ hz
theorem gw_O4J (hG : Cx own b mL rt isI d a n0 Q G) {u1 u2 u3 u4 : Value} {P : Int → Mem → Prop} {x : Int} {ci : Nat} {fs : List Value} {xm : MethodName} {C : String} (lk : LkO own idx xm C y 4) (lc : LkC y b' mL' rt' 4) (hE : EvJ y b' mL' rt' d' (Vr x :: [u1, u2, u3, u4]) w P) (hrec : hp w x = cO ci fs) (hci : (clsL[ci]?).map (fun r => r.1) = some C) (hd' : d' < d) (hst : (st.map fun v => v.category).sum ≤ 8) (hd : decode b pc = .ok (.invokevirtual idx, 3)) (hq : pc + 3 = q) (hn0 : 102 ≤ n0 + a) (k : ∀ (z : Int) (w' : Mem), P z w' → G q ls (Vj z :: st) 102 (hp w')) : G pc ls (u4 :: u3 :: u2 :: u1 :: Vr x :: st) 102 (hp w) := by
  refine gx_callO (As := [u1, u2, u3, u4]) hG lk lc hE hrec hci hd' hn0 hst rfl hd hq (fun v h' z => ?_)
  obtain ⟨w', rfl, z, rfl, hz⟩ := z
  exact k _ _ hz
theorem gw_O4Y (hG : Cx own b mL rt isI d a n0 Q G) {u1 u2 u3 u4 : Value} {P : Int → Prop} {x : Int} {ci : Nat} {fs : List Value} {xm : MethodName} {C : String} (lk : LkO own idx xm C y 4) (lc : LkC y b' mL' rt' 4) (hE : EvY y b' mL' rt' d' (Vr x :: [u1, u2, u3, u4]) w P) (hrec : hp w x = cO ci fs) (hci : (clsL[ci]?).map (fun r => r.1) = some C) (hd' : d' < d) (hst : (st.map fun v => v.category).sum ≤ 8) (hd : decode b pc = .ok (.invokevirtual idx, 3)) (hq : pc + 3 = q) (hn0 : 102 ≤ n0 + a) (k : ∀ z : Int, P z → G q ls (Vi z :: st) 102 (hp w)) : G pc ls (u4 :: u3 :: u2 :: u1 :: Vr x :: st) 102 (hp w) := by
  refine gx_callO (As := [u1, u2, u3, u4]) hG lk lc hE hrec hci hd' hn0 hst rfl hd hq (fun v h' z => ?_)
  obtain ⟨w', rfl, z, rfl, rfl, hz⟩ := z
  exact k _ hz
theorem gw_O4Z (hG : Cx own b mL rt isI d a n0 Q G) {u1 u2 u3 u4 : Value} {P : Int → Prop} {x : Int} {ci : Nat} {fs : List Value} {xm : MethodName} {C : String} (lk : LkO own idx xm C y 4) (lc : LkC y b' mL' rt' 4) (hE : EvZ y b' mL' rt' d' (Vr x :: [u1, u2, u3, u4]) w P) (hrec : hp w x = cO ci fs) (hci : (clsL[ci]?).map (fun r => r.1) = some C) (hd' : d' < d) (hst : (st.map fun v => v.category).sum ≤ 8) (hd : decode b pc = .ok (.invokevirtual idx, 3)) (hq : pc + 3 = q) (hn0 : 102 ≤ n0 + a) (k : ∀ z : Int, P z → G q ls (Vj z :: st) 102 (hp w)) : G pc ls (u4 :: u3 :: u2 :: u1 :: Vr x :: st) 102 (hp w) := by
  refine gx_callO (As := [u1, u2, u3, u4]) hG lk lc hE hrec hci hd' hn0 hst rfl hd hq (fun v h' z => ?_)
  obtain ⟨w', rfl, z, rfl, rfl, hz⟩ := z
  exact k _ hz
theorem gw_O4V (hG : Cx own b mL rt isI d a n0 Q G) {u1 u2 u3 u4 : Value} {P : Mem → Prop} {x : Int} {ci : Nat} {fs : List Value} {xm : MethodName} {C : String} (lk : LkO own idx xm C y 4) (lc : LkC y b' mL' rt' 4) (hE : EvV y b' mL' rt' d' (Vr x :: [u1, u2, u3, u4]) w P) (hrec : hp w x = cO ci fs) (hci : (clsL[ci]?).map (fun r => r.1) = some C) (hd' : d' < d) (hst : (st.map fun v => v.category).sum ≤ 8) (hd : decode b pc = .ok (.invokevirtual idx, 3)) (hq : pc + 3 = q) (hn0 : 102 ≤ n0 + a) (k : ∀ w' : Mem, P w' → G q ls st 102 (hp w')) : G pc ls (u4 :: u3 :: u2 :: u1 :: Vr x :: st) 102 (hp w) := by
  refine gx_callO (As := [u1, u2, u3, u4]) hG lk lc hE hrec hci hd' hn0 hst rfl hd hq (fun v h' z => ?_)
  obtain ⟨w', rfl, rfl, hz⟩ := z
  exact k _ hz
theorem gw_O5X (hG : Cx own b mL rt isI d a n0 Q G) {u1 u2 u3 u4 u5 : Value} {v : Value} {x : Int} {ci : Nat} {fs : List Value} {xm : MethodName} {C : String} (lk : LkO own idx xm C y 5) (lc : LkC y b' mL' rt' 5) (hE : EvX y b' mL' rt' d' (Vr x :: [u1, u2, u3, u4, u5]) w v) (hrec : hp w x = cO ci fs) (hci : (clsL[ci]?).map (fun r => r.1) = some C) (hd' : d' < d) (hst : (st.map fun v => v.category).sum ≤ 8) (hd : decode b pc = .ok (.invokevirtual idx, 3)) (hq : pc + 3 = q) (hn0 : 102 ≤ n0 + a) (k : G q ls (v :: st) 102 (hp w)) : G pc ls (u5 :: u4 :: u3 :: u2 :: u1 :: Vr x :: st) 102 (hp w) := by
  refine gx_callO (As := [u1, u2, u3, u4, u5]) hG lk lc hE hrec hci hd' hn0 hst rfl hd hq (fun v h' z => ?_)
  obtain ⟨w', rfl, rfl, rfl⟩ := z
  exact k
theorem gw_O5I (hG : Cx own b mL rt isI d a n0 Q G) {u1 u2 u3 u4 u5 : Value} {P : Int → Mem → Prop} {x : Int} {ci : Nat} {fs : List Value} {xm : MethodName} {C : String} (lk : LkO own idx xm C y 5) (lc : LkC y b' mL' rt' 5) (hE : EvI y b' mL' rt' d' (Vr x :: [u1, u2, u3, u4, u5]) w P) (hrec : hp w x = cO ci fs) (hci : (clsL[ci]?).map (fun r => r.1) = some C) (hd' : d' < d) (hst : (st.map fun v => v.category).sum ≤ 8) (hd : decode b pc = .ok (.invokevirtual idx, 3)) (hq : pc + 3 = q) (hn0 : 102 ≤ n0 + a) (k : ∀ (z : Int) (w' : Mem), P z w' → G q ls (Vi z :: st) 102 (hp w')) : G pc ls (u5 :: u4 :: u3 :: u2 :: u1 :: Vr x :: st) 102 (hp w) := by
  refine gx_callO (As := [u1, u2, u3, u4, u5]) hG lk lc hE hrec hci hd' hn0 hst rfl hd hq (fun v h' z => ?_)
  obtain ⟨w', rfl, z, rfl, hz⟩ := z
  exact k _ _ hz
theorem gw_O5J (hG : Cx own b mL rt isI d a n0 Q G) {u1 u2 u3 u4 u5 : Value} {P : Int → Mem → Prop} {x : Int} {ci : Nat} {fs : List Value} {xm : MethodName} {C : String} (lk : LkO own idx xm C y 5) (lc : LkC y b' mL' rt' 5) (hE : EvJ y b' mL' rt' d' (Vr x :: [u1, u2, u3, u4, u5]) w P) (hrec : hp w x = cO ci fs) (hci : (clsL[ci]?).map (fun r => r.1) = some C) (hd' : d' < d) (hst : (st.map fun v => v.category).sum ≤ 8) (hd : decode b pc = .ok (.invokevirtual idx, 3)) (hq : pc + 3 = q) (hn0 : 102 ≤ n0 + a) (k : ∀ (z : Int) (w' : Mem), P z w' → G q ls (Vj z :: st) 102 (hp w')) : G pc ls (u5 :: u4 :: u3 :: u2 :: u1 :: Vr x :: st) 102 (hp w) := by
  refine gx_callO (As := [u1, u2, u3, u4, u5]) hG lk lc hE hrec hci hd' hn0 hst rfl hd hq (fun v h' z => ?_)
  obtain ⟨w', rfl, z, rfl, hz⟩ := z
  exact k _ _ hz
theorem gw_O5Y (hG : Cx own b mL rt isI d a n0 Q G) {u1 u2 u3 u4 u5 : Value} {P : Int → Prop} {x : Int} {ci : Nat} {fs : List Value} {xm : MethodName} {C : String} (lk : LkO own idx xm C y 5) (lc : LkC y b' mL' rt' 5) (hE : EvY y b' mL' rt' d' (Vr x :: [u1, u2, u3, u4, u5]) w P) (hrec : hp w x = cO ci fs) (hci : (clsL[ci]?).map (fun r => r.1) = some C) (hd' : d' < d) (hst : (st.map fun v => v.category).sum ≤ 8) (hd : decode b pc = .ok (.invokevirtual idx, 3)) (hq : pc + 3 = q) (hn0 : 102 ≤ n0 + a) (k : ∀ z : Int, P z → G q ls (Vi z :: st) 102 (hp w)) : G pc ls (u5 :: u4 :: u3 :: u2 :: u1 :: Vr x :: st) 102 (hp w) := by
  refine gx_callO (As := [u1, u2, u3, u4, u5]) hG lk lc hE hrec hci hd' hn0 hst rfl hd hq (fun v h' z => ?_)
  obtain ⟨w', rfl, z, rfl, rfl, hz⟩ := z
  exact k _ hz
theorem gw_O5Z (hG : Cx own b mL rt isI d a n0 Q G) {u1 u2 u3 u4 u5 : Value} {P : Int → Prop} {x : Int} {ci : Nat} {fs : List Value} {xm : MethodName} {C : String} (lk : LkO own idx xm C y 5) (lc : LkC y b' mL' rt' 5) (hE : EvZ y b' mL' rt' d' (Vr x :: [u1, u2, u3, u4, u5]) w P) (hrec : hp w x = cO ci fs) (hci : (clsL[ci]?).map (fun r => r.1) = some C) (hd' : d' < d) (hst : (st.map fun v => v.category).sum ≤ 8) (hd : decode b pc = .ok (.invokevirtual idx, 3)) (hq : pc + 3 = q) (hn0 : 102 ≤ n0 + a) (k : ∀ z : Int, P z → G q ls (Vj z :: st) 102 (hp w)) : G pc ls (u5 :: u4 :: u3 :: u2 :: u1 :: Vr x :: st) 102 (hp w) := by
  refine gx_callO (As := [u1, u2, u3, u4, u5]) hG lk lc hE hrec hci hd' hn0 hst rfl hd hq (fun v h' z => ?_)
  obtain ⟨w', rfl, z, rfl, rfl, hz⟩ := z
  exact k _ hz
theorem gw_O5V (hG : Cx own b mL rt isI d a n0 Q G) {u1 u2 u3 u4 u5 : Value} {P : Mem → Prop} {x : Int} {ci : Nat} {fs : List Value} {xm : MethodName} {C : String} (lk : LkO own idx xm C y 5) (lc : LkC y b' mL' rt' 5) (hE : EvV y b' mL' rt' d' (Vr x :: [u1, u2, u3, u4, u5]) w P) (hrec : hp w x = cO ci fs) (hci : (clsL[ci]?).map (fun r => r.1) = some C) (hd' : d' < d) (hst : (st.map fun v => v.category).sum ≤ 8) (hd : decode b pc = .ok (.invokevirtual idx, 3)) (hq : pc + 3 = q) (hn0 : 102 ≤ n0 + a) (k : ∀ w' : Mem, P w' → G q ls st 102 (hp w')) : G pc ls (u5 :: u4 :: u3 :: u2 :: u1 :: Vr x :: st) 102 (hp w) := by
  refine gx_callO (As := [u1, u2, u3, u4, u5]) hG lk lc hE hrec hci hd' hn0 hst rfl hd hq (fun v h' z => ?_)
  obtain ⟨w', rfl, rfl, hz⟩ := z
  exact k _ hz
end GW
