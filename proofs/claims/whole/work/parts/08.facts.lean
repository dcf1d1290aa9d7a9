/-! part 08: what the tables say, by places: printed by wip/tool/gen_facts.py -/
theorem mem_t {i : Nat} {w : Cond} (h : tables_1[i]? = some w) : w ∈ lw_tbl := List.mem_append_right _ (List.mem_of_getElem? h)
theorem mem_p {i : Nat} {w : Cond} (h : (k2_sels lw_privs)[i]? = some w) : w ∈ lw_tbl := List.mem_append_left _ (List.mem_of_getElem? h)
theorem in_X : ∀ w ∈ u_ws "WhoSaysOne" ft_X 16, w ∈ lw_tbl := by decide +kernel
theorem ok_X : ∀ j, j < 16 → parseFieldDescriptor (ft_X j).2.2.1 = some (fy_X j) := by decide +kernel
theorem nm_X : ∀ a, a < 16 → ∀ b, b < 16 → a ≠ b → (ft_X a).2.1 ≠ (ft_X b).2.1 := by decide +kernel
theorem in_Rw : ∀ w ∈ u_ws "WhoSaysOne$Row" ft_Rw 2, w ∈ lw_tbl := by decide +kernel
theorem ok_Rw : ∀ j, j < 2 → parseFieldDescriptor (ft_Rw j).2.2.1 = some (fy_Rw j) := by decide +kernel
theorem nm_Rw : ∀ a, a < 2 → ∀ b, b < 2 → a ≠ b → (ft_Rw a).2.1 ≠ (ft_Rw b).2.1 := by decide +kernel
theorem in_Gm : ∀ w ∈ u_ws "WhoSaysOne$Game" ft_Gm 4, w ∈ lw_tbl := by decide +kernel
theorem ok_Gm : ∀ j, j < 4 → parseFieldDescriptor (ft_Gm j).2.2.1 = some (fy_Gm j) := by decide +kernel
theorem nm_Gm : ∀ a, a < 4 → ∀ b, b < 4 → a ≠ b → (ft_Gm a).2.1 ≠ (ft_Gm b).2.1 := by decide +kernel
theorem in_Pl : ∀ w ∈ u_ws "WhoSaysOne$Player" ft_Pl 0, w ∈ lw_tbl := by decide +kernel
theorem ok_Pl : ∀ j, j < 0 → parseFieldDescriptor (ft_Pl j).2.2.1 = some (fy_Pl j) := by decide +kernel
theorem nm_Pl : ∀ a, a < 0 → ∀ b, b < 0 → a ≠ b → (ft_Pl a).2.1 ≠ (ft_Pl b).2.1 := by decide +kernel
theorem in_Sm : ∀ w ∈ u_ws "WhoSaysOne$Small" ft_Sm 0, w ∈ lw_tbl := by decide +kernel
theorem ok_Sm : ∀ j, j < 0 → parseFieldDescriptor (ft_Sm j).2.2.1 = some (fy_Sm j) := by decide +kernel
theorem nm_Sm : ∀ a, a < 0 → ∀ b, b < 0 → a ≠ b → (ft_Sm a).2.1 ≠ (ft_Sm b).2.1 := by decide +kernel
theorem in_Pr : ∀ w ∈ u_ws "WhoSaysOne$Pair" ft_Pr 0, w ∈ lw_tbl := by decide +kernel
theorem ok_Pr : ∀ j, j < 0 → parseFieldDescriptor (ft_Pr j).2.2.1 = some (fy_Pr j) := by decide +kernel
theorem nm_Pr : ∀ a, a < 0 → ∀ b, b < 0 → a ≠ b → (ft_Pr a).2.1 ≠ (ft_Pr b).2.1 := by decide +kernel
theorem in_Bs : ∀ w ∈ u_ws "WhoSaysOne$Best" ft_Bs 0, w ∈ lw_tbl := by decide +kernel
theorem ok_Bs : ∀ j, j < 0 → parseFieldDescriptor (ft_Bs j).2.2.1 = some (fy_Bs j) := by decide +kernel
theorem nm_Bs : ∀ a, a < 0 → ∀ b, b < 0 → a ≠ b → (ft_Bs a).2.1 ≠ (ft_Bs b).2.1 := by decide +kernel
theorem in_Lo : ∀ w ∈ u_ws "WhoSaysOne$Longer" ft_Lo 0, w ∈ lw_tbl := by decide +kernel
theorem ok_Lo : ∀ j, j < 0 → parseFieldDescriptor (ft_Lo j).2.2.1 = some (fy_Lo j) := by decide +kernel
theorem nm_Lo : ∀ a, a < 0 → ∀ b, b < 0 → a ≠ b → (ft_Lo a).2.1 ≠ (ft_Lo b).2.1 := by decide +kernel
theorem in_Ch : ∀ w ∈ u_ws "WhoSaysOne$Chance" ft_Ch 0, w ∈ lw_tbl := by decide +kernel
theorem ok_Ch : ∀ j, j < 0 → parseFieldDescriptor (ft_Ch j).2.2.1 = some (fy_Ch j) := by decide +kernel
theorem nm_Ch : ∀ a, a < 0 → ∀ b, b < 0 → a ≠ b → (ft_Ch a).2.1 ≠ (ft_Ch b).2.1 := by decide +kernel
theorem in_Rd : ∀ w ∈ u_ws "WhoSaysOne$Reader" ft_Rd 4, w ∈ lw_tbl := by decide +kernel
theorem ok_Rd : ∀ j, j < 4 → parseFieldDescriptor (ft_Rd j).2.2.1 = some (fy_Rd j) := by decide +kernel
theorem nm_Rd : ∀ a, a < 4 → ∀ b, b < 4 → a ≠ b → (ft_Rd a).2.1 ≠ (ft_Rd b).2.1 := by decide +kernel
theorem in_Su : ∀ w ∈ u_ws "WhoSaysOne$Sums" ft_Su 6, w ∈ lw_tbl := by decide +kernel
theorem ok_Su : ∀ j, j < 6 → parseFieldDescriptor (ft_Su j).2.2.1 = some (fy_Su j) := by decide +kernel
theorem nm_Su : ∀ a, a < 6 → ∀ b, b < 6 → a ≠ b → (ft_Su a).2.1 ≠ (ft_Su b).2.1 := by decide +kernel
theorem in_So : ∀ w ∈ u_ws "WhoSaysOne$Solver" ft_So 4, w ∈ lw_tbl := by decide +kernel
theorem ok_So : ∀ j, j < 4 → parseFieldDescriptor (ft_So j).2.2.1 = some (fy_So j) := by decide +kernel
theorem nm_So : ∀ a, a < 4 → ∀ b, b < 4 → a ≠ b → (ft_So a).2.1 ≠ (ft_So b).2.1 := by decide +kernel
theorem in_M : ∀ w ∈ u_ws "WhoSaysOneModel" ft_M 40, w ∈ lw_tbl := by decide +kernel
theorem ok_M : ∀ j, j < 40 → parseFieldDescriptor (ft_M j).2.2.1 = some (fy_M j) := by decide +kernel
theorem nm_M : ∀ a, a < 40 → ∀ b, b < 40 → a ≠ b → (ft_M a).2.1 ≠ (ft_M b).2.1 := by decide +kernel
theorem f_Gm_9 : Fld "WhoSaysOne$Game" 9 2 0 (.array .int) true true := ⟨"WhoSaysOne$Game", ft_Gm, 4, fy_Gm, rfl, by decide, in_Gm, ok_Gm, nm_Gm, rfl, rfl, (fun _ _ => rfl), mem_t (i := 35) (by decide +kernel)⟩
theorem f_Su_53 : Fld "WhoSaysOne$Sums" 53 2 0 (.array .int) true false := ⟨"WhoSaysOne$Game", ft_Gm, 4, fy_Gm, rfl, by decide, in_Gm, ok_Gm, nm_Gm, rfl, rfl, (fun z => by cases z), mem_t (i := 36) (by decide +kernel)⟩
theorem f_X_204 : Fld "WhoSaysOne" 204 2 0 (.array .int) true false := ⟨"WhoSaysOne$Game", ft_Gm, 4, fy_Gm, rfl, by decide, in_Gm, ok_Gm, nm_Gm, rfl, rfl, (fun z => by cases z), mem_t (i := 37) (by decide +kernel)⟩
theorem f_Gm_23 : Fld "WhoSaysOne$Game" 23 2 1 (.int) false true := ⟨"WhoSaysOne$Game", ft_Gm, 4, fy_Gm, rfl, by decide, in_Gm, ok_Gm, nm_Gm, rfl, rfl, (fun _ _ => rfl), mem_t (i := 38) (by decide +kernel)⟩
theorem f_Su_50 : Fld "WhoSaysOne$Sums" 50 2 1 (.int) false true := ⟨"WhoSaysOne$Game", ft_Gm, 4, fy_Gm, rfl, by decide, in_Gm, ok_Gm, nm_Gm, rfl, rfl, (fun _ z => by cases z), mem_t (i := 39) (by decide +kernel)⟩
theorem f_Rd_64 : Fld "WhoSaysOne$Reader" 64 2 1 (.int) false true := ⟨"WhoSaysOne$Game", ft_Gm, 4, fy_Gm, rfl, by decide, in_Gm, ok_Gm, nm_Gm, rfl, rfl, (fun _ z => by cases z), mem_t (i := 40) (by decide +kernel)⟩
theorem f_X_147 : Fld "WhoSaysOne" 147 2 1 (.int) false true := ⟨"WhoSaysOne$Game", ft_Gm, 4, fy_Gm, rfl, by decide, in_Gm, ok_Gm, nm_Gm, rfl, rfl, (fun _ z => by cases z), mem_t (i := 41) (by decide +kernel)⟩
theorem f_Gm_19 : Fld "WhoSaysOne$Game" 19 2 2 (.int) false true := ⟨"WhoSaysOne$Game", ft_Gm, 4, fy_Gm, rfl, by decide, in_Gm, ok_Gm, nm_Gm, rfl, rfl, (fun _ _ => rfl), mem_t (i := 42) (by decide +kernel)⟩
theorem f_So_24 : Fld "WhoSaysOne$Solver" 24 2 2 (.int) false true := ⟨"WhoSaysOne$Game", ft_Gm, 4, fy_Gm, rfl, by decide, in_Gm, ok_Gm, nm_Gm, rfl, rfl, (fun _ z => by cases z), mem_t (i := 43) (by decide +kernel)⟩
theorem f_Su_41 : Fld "WhoSaysOne$Sums" 41 2 2 (.int) false true := ⟨"WhoSaysOne$Game", ft_Gm, 4, fy_Gm, rfl, by decide, in_Gm, ok_Gm, nm_Gm, rfl, rfl, (fun _ z => by cases z), mem_t (i := 44) (by decide +kernel)⟩
theorem f_X_148 : Fld "WhoSaysOne" 148 2 2 (.int) false true := ⟨"WhoSaysOne$Game", ft_Gm, 4, fy_Gm, rfl, by decide, in_Gm, ok_Gm, nm_Gm, rfl, rfl, (fun _ z => by cases z), mem_t (i := 45) (by decide +kernel)⟩
theorem f_Gm_15 : Fld "WhoSaysOne$Game" 15 2 3 (.long) false true := ⟨"WhoSaysOne$Game", ft_Gm, 4, fy_Gm, rfl, by decide, in_Gm, ok_Gm, nm_Gm, rfl, rfl, (fun _ _ => rfl), mem_t (i := 46) (by decide +kernel)⟩
theorem f_Rd_12 : Fld "WhoSaysOne$Reader" 12 9 0 (.object "WhoSaysOne$Game") true true := ⟨"WhoSaysOne$Reader", ft_Rd, 4, fy_Rd, rfl, by decide, in_Rd, ok_Rd, nm_Rd, rfl, rfl, (fun _ _ => rfl), mem_t (i := 110) (by decide +kernel)⟩
theorem f_X_135 : Fld "WhoSaysOne" 135 9 0 (.object "WhoSaysOne$Game") true false := ⟨"WhoSaysOne$Reader", ft_Rd, 4, fy_Rd, rfl, by decide, in_Rd, ok_Rd, nm_Rd, rfl, rfl, (fun z => by cases z), mem_t (i := 111) (by decide +kernel)⟩
theorem f_Rd_18 : Fld "WhoSaysOne$Reader" 18 9 1 (.array .int) true true := ⟨"WhoSaysOne$Reader", ft_Rd, 4, fy_Rd, rfl, by decide, in_Rd, ok_Rd, nm_Rd, rfl, rfl, (fun _ _ => rfl), mem_t (i := 112) (by decide +kernel)⟩
theorem f_X_146 : Fld "WhoSaysOne" 146 9 1 (.array .int) true false := ⟨"WhoSaysOne$Reader", ft_Rd, 4, fy_Rd, rfl, by decide, in_Rd, ok_Rd, nm_Rd, rfl, rfl, (fun z => by cases z), mem_t (i := 113) (by decide +kernel)⟩
theorem f_Rd_26 : Fld "WhoSaysOne$Reader" 26 9 2 (.int) false true := ⟨"WhoSaysOne$Reader", ft_Rd, 4, fy_Rd, rfl, by decide, in_Rd, ok_Rd, nm_Rd, rfl, rfl, (fun _ _ => rfl), mem_t (i := 114) (by decide +kernel)⟩
theorem f_X_142 : Fld "WhoSaysOne" 142 9 2 (.int) false true := ⟨"WhoSaysOne$Reader", ft_Rd, 4, fy_Rd, rfl, by decide, in_Rd, ok_Rd, nm_Rd, rfl, rfl, (fun _ z => by cases z), mem_t (i := 115) (by decide +kernel)⟩
theorem f_Rd_30 : Fld "WhoSaysOne$Reader" 30 9 3 (.int) false true := ⟨"WhoSaysOne$Reader", ft_Rd, 4, fy_Rd, rfl, by decide, in_Rd, ok_Rd, nm_Rd, rfl, rfl, (fun _ _ => rfl), mem_t (i := 116) (by decide +kernel)⟩
theorem f_Su_9 : Fld "WhoSaysOne$Sums" 9 10 0 (.array .int) true true := ⟨"WhoSaysOne$Sums", ft_Su, 6, fy_Su, rfl, by decide, in_Su, ok_Su, nm_Su, rfl, rfl, (fun _ _ => rfl), mem_t (i := 134) (by decide +kernel)⟩
theorem f_Su_15 : Fld "WhoSaysOne$Sums" 15 10 1 (.array .int) true true := ⟨"WhoSaysOne$Sums", ft_Su, 6, fy_Su, rfl, by decide, in_Su, ok_Su, nm_Su, rfl, rfl, (fun _ _ => rfl), mem_t (i := 135) (by decide +kernel)⟩
theorem f_Su_30 : Fld "WhoSaysOne$Sums" 30 10 2 (.int) false true := ⟨"WhoSaysOne$Sums", ft_Su, 6, fy_Su, rfl, by decide, in_Su, ok_Su, nm_Su, rfl, rfl, (fun _ _ => rfl), mem_t (i := 136) (by decide +kernel)⟩
theorem f_Su_18 : Fld "WhoSaysOne$Sums" 18 10 3 (.array .int) true true := ⟨"WhoSaysOne$Sums", ft_Su, 6, fy_Su, rfl, by decide, in_Su, ok_Su, nm_Su, rfl, rfl, (fun _ _ => rfl), mem_t (i := 137) (by decide +kernel)⟩
theorem f_Su_21 : Fld "WhoSaysOne$Sums" 21 10 4 (.array .long) true true := ⟨"WhoSaysOne$Sums", ft_Su, 6, fy_Su, rfl, by decide, in_Su, ok_Su, nm_Su, rfl, rfl, (fun _ _ => rfl), mem_t (i := 138) (by decide +kernel)⟩
theorem f_Su_27 : Fld "WhoSaysOne$Sums" 27 10 5 (.array (.array .long)) true true := ⟨"WhoSaysOne$Sums", ft_Su, 6, fy_Su, rfl, by decide, in_Su, ok_Su, nm_Su, rfl, rfl, (fun _ _ => rfl), mem_t (i := 139) (by decide +kernel)⟩
theorem f_So_34 : Fld "WhoSaysOne$Solver" 34 11 0 (.int) false true := ⟨"WhoSaysOne$Solver", ft_So, 4, fy_So, rfl, by decide, in_So, ok_So, nm_So, rfl, rfl, (fun _ _ => rfl), mem_t (i := 160) (by decide +kernel)⟩
theorem f_So_11 : Fld "WhoSaysOne$Solver" 11 11 1 (.array .int) true true := ⟨"WhoSaysOne$Solver", ft_So, 4, fy_So, rfl, by decide, in_So, ok_So, nm_So, rfl, rfl, (fun _ _ => rfl), mem_t (i := 161) (by decide +kernel)⟩
theorem f_So_15 : Fld "WhoSaysOne$Solver" 15 11 2 (.array .int) true true := ⟨"WhoSaysOne$Solver", ft_So, 4, fy_So, rfl, by decide, in_So, ok_So, nm_So, rfl, rfl, (fun _ _ => rfl), mem_t (i := 162) (by decide +kernel)⟩
theorem f_So_37 : Fld "WhoSaysOne$Solver" 37 11 3 (.int) false true := ⟨"WhoSaysOne$Solver", ft_So, 4, fy_So, rfl, by decide, in_So, ok_So, nm_So, rfl, rfl, (fun _ _ => rfl), mem_t (i := 163) (by decide +kernel)⟩
theorem f_Rw_9 : Fld "WhoSaysOne$Row" 9 1 0 (.array .int) true true := ⟨"WhoSaysOne$Row", ft_Rw, 2, fy_Rw, rfl, by decide, in_Rw, ok_Rw, nm_Rw, rfl, rfl, (fun _ _ => rfl), mem_t (i := 178) (by decide +kernel)⟩
theorem f_Rd_38 : Fld "WhoSaysOne$Reader" 38 1 0 (.array .int) true false := ⟨"WhoSaysOne$Row", ft_Rw, 2, fy_Rw, rfl, by decide, in_Rw, ok_Rw, nm_Rw, rfl, rfl, (fun z => by cases z), mem_t (i := 179) (by decide +kernel)⟩
theorem f_X_96 : Fld "WhoSaysOne" 96 1 0 (.array .int) true false := ⟨"WhoSaysOne$Row", ft_Rw, 2, fy_Rw, rfl, by decide, in_Rw, ok_Rw, nm_Rw, rfl, rfl, (fun z => by cases z), mem_t (i := 180) (by decide +kernel)⟩
theorem f_Rw_15 : Fld "WhoSaysOne$Row" 15 1 1 (.int) false true := ⟨"WhoSaysOne$Row", ft_Rw, 2, fy_Rw, rfl, by decide, in_Rw, ok_Rw, nm_Rw, rfl, rfl, (fun _ _ => rfl), mem_t (i := 181) (by decide +kernel)⟩
theorem f_Rd_33 : Fld "WhoSaysOne$Reader" 33 1 1 (.int) false true := ⟨"WhoSaysOne$Row", ft_Rw, 2, fy_Rw, rfl, by decide, in_Rw, ok_Rw, nm_Rw, rfl, rfl, (fun _ z => by cases z), mem_t (i := 182) (by decide +kernel)⟩
theorem f_X_107 : Fld "WhoSaysOne" 107 1 1 (.int) false true := ⟨"WhoSaysOne$Row", ft_Rw, 2, fy_Rw, rfl, by decide, in_Rw, ok_Rw, nm_Rw, rfl, rfl, (fun _ z => by cases z), mem_t (i := 183) (by decide +kernel)⟩
theorem f_X_11 : Fld "WhoSaysOne" 11 0 0 (.array (.object "WhoSaysOne$Row")) true true := ⟨"WhoSaysOne", ft_X, 16, fy_X, rfl, by decide, in_X, ok_X, nm_X, rfl, rfl, (fun _ _ => rfl), mem_t (i := 189) (by decide +kernel)⟩
theorem f_X_15 : Fld "WhoSaysOne" 15 0 1 (.array (.object "WhoSaysOne$Row")) true true := ⟨"WhoSaysOne", ft_X, 16, fy_X, rfl, by decide, in_X, ok_X, nm_X, rfl, rfl, (fun _ _ => rfl), mem_t (i := 190) (by decide +kernel)⟩
theorem f_X_21 : Fld "WhoSaysOne" 21 0 2 (.object "WhoSaysOne$Game") true true := ⟨"WhoSaysOne", ft_X, 16, fy_X, rfl, by decide, in_X, ok_X, nm_X, rfl, rfl, (fun _ _ => rfl), mem_t (i := 191) (by decide +kernel)⟩
theorem f_X_25 : Fld "WhoSaysOne" 25 0 3 (.array (.object "WhoSaysOne$Game")) true true := ⟨"WhoSaysOne", ft_X, 16, fy_X, rfl, by decide, in_X, ok_X, nm_X, rfl, rfl, (fun _ _ => rfl), mem_t (i := 192) (by decide +kernel)⟩
theorem f_X_29 : Fld "WhoSaysOne" 29 0 4 (.array .boolean) true true := ⟨"WhoSaysOne", ft_X, 16, fy_X, rfl, by decide, in_X, ok_X, nm_X, rfl, rfl, (fun _ _ => rfl), mem_t (i := 193) (by decide +kernel)⟩
theorem f_X_51 : Fld "WhoSaysOne" 51 0 5 (.array (.object "WhoSaysOne$Player")) true true := ⟨"WhoSaysOne", ft_X, 16, fy_X, rfl, by decide, in_X, ok_X, nm_X, rfl, rfl, (fun _ _ => rfl), mem_t (i := 194) (by decide +kernel)⟩
theorem f_X_55 : Fld "WhoSaysOne" 55 0 6 (.array .int) true true := ⟨"WhoSaysOne", ft_X, 16, fy_X, rfl, by decide, in_X, ok_X, nm_X, rfl, rfl, (fun _ _ => rfl), mem_t (i := 195) (by decide +kernel)⟩
theorem f_X_145 : Fld "WhoSaysOne" 145 0 7 (.int) false true := ⟨"WhoSaysOne", ft_X, 16, fy_X, rfl, by decide, in_X, ok_X, nm_X, rfl, rfl, (fun _ _ => rfl), mem_t (i := 196) (by decide +kernel)⟩
theorem f_X_62 : Fld "WhoSaysOne" 62 0 8 (.object "WhoSaysOne$Reader") true true := ⟨"WhoSaysOne", ft_X, 16, fy_X, rfl, by decide, in_X, ok_X, nm_X, rfl, rfl, (fun _ _ => rfl), mem_t (i := 197) (by decide +kernel)⟩
theorem f_X_69 : Fld "WhoSaysOne" 69 0 9 (.object "WhoSaysOne$Sums") true true := ⟨"WhoSaysOne", ft_X, 16, fy_X, rfl, by decide, in_X, ok_X, nm_X, rfl, rfl, (fun _ _ => rfl), mem_t (i := 198) (by decide +kernel)⟩
theorem f_X_76 : Fld "WhoSaysOne" 76 0 10 (.object "WhoSaysOne$Solver") true true := ⟨"WhoSaysOne", ft_X, 16, fy_X, rfl, by decide, in_X, ok_X, nm_X, rfl, rfl, (fun _ _ => rfl), mem_t (i := 199) (by decide +kernel)⟩
theorem f_X_99 : Fld "WhoSaysOne" 99 0 11 (.int) false true := ⟨"WhoSaysOne", ft_X, 16, fy_X, rfl, by decide, in_X, ok_X, nm_X, rfl, rfl, (fun _ _ => rfl), mem_t (i := 200) (by decide +kernel)⟩
theorem f_X_289 : Fld "WhoSaysOne" 289 0 12 (.long) false true := ⟨"WhoSaysOne", ft_X, 16, fy_X, rfl, by decide, in_X, ok_X, nm_X, rfl, rfl, (fun _ _ => rfl), mem_t (i := 201) (by decide +kernel)⟩
theorem f_X_80 : Fld "WhoSaysOne" 80 0 13 (.long) false true := ⟨"WhoSaysOne", ft_X, 16, fy_X, rfl, by decide, in_X, ok_X, nm_X, rfl, rfl, (fun _ _ => rfl), mem_t (i := 202) (by decide +kernel)⟩
theorem f_X_302 : Fld "WhoSaysOne" 302 0 14 (.int) false true := ⟨"WhoSaysOne", ft_X, 16, fy_X, rfl, by decide, in_X, ok_X, nm_X, rfl, rfl, (fun _ _ => rfl), mem_t (i := 203) (by decide +kernel)⟩
theorem f_X_84 : Fld "WhoSaysOne" 84 0 15 (.array .int) true true := ⟨"WhoSaysOne", ft_X, 16, fy_X, rfl, by decide, in_X, ok_X, nm_X, rfl, rfl, (fun _ _ => rfl), mem_t (i := 204) (by decide +kernel)⟩
theorem f_M_92 : Fld "WhoSaysOneModel" 92 12 0 (.int) false true := ⟨"WhoSaysOneModel", ft_M, 40, fy_M, rfl, by decide, in_M, ok_M, nm_M, rfl, rfl, (fun _ _ => rfl), mem_t (i := 819) (by decide +kernel)⟩
theorem f_M_7 : Fld "WhoSaysOneModel" 7 12 1 (.array .int) true true := ⟨"WhoSaysOneModel", ft_M, 40, fy_M, rfl, by decide, in_M, ok_M, nm_M, rfl, rfl, (fun _ _ => rfl), mem_t (i := 820) (by decide +kernel)⟩
theorem f_M_100 : Fld "WhoSaysOneModel" 100 12 2 (.int) false true := ⟨"WhoSaysOneModel", ft_M, 40, fy_M, rfl, by decide, in_M, ok_M, nm_M, rfl, rfl, (fun _ _ => rfl), mem_t (i := 821) (by decide +kernel)⟩
theorem f_M_103 : Fld "WhoSaysOneModel" 103 12 3 (.long) false true := ⟨"WhoSaysOneModel", ft_M, 40, fy_M, rfl, by decide, in_M, ok_M, nm_M, rfl, rfl, (fun _ _ => rfl), mem_t (i := 822) (by decide +kernel)⟩
theorem f_M_88 : Fld "WhoSaysOneModel" 88 12 4 (.long) false true := ⟨"WhoSaysOneModel", ft_M, 40, fy_M, rfl, by decide, in_M, ok_M, nm_M, rfl, rfl, (fun _ _ => rfl), mem_t (i := 823) (by decide +kernel)⟩
theorem f_M_13 : Fld "WhoSaysOneModel" 13 12 5 (.array .int) true true := ⟨"WhoSaysOneModel", ft_M, 40, fy_M, rfl, by decide, in_M, ok_M, nm_M, rfl, rfl, (fun _ _ => rfl), mem_t (i := 824) (by decide +kernel)⟩
theorem f_M_16 : Fld "WhoSaysOneModel" 16 12 6 (.array .int) true true := ⟨"WhoSaysOneModel", ft_M, 40, fy_M, rfl, by decide, in_M, ok_M, nm_M, rfl, rfl, (fun _ _ => rfl), mem_t (i := 825) (by decide +kernel)⟩
theorem f_M_19 : Fld "WhoSaysOneModel" 19 12 7 (.array .int) true true := ⟨"WhoSaysOneModel", ft_M, 40, fy_M, rfl, by decide, in_M, ok_M, nm_M, rfl, rfl, (fun _ _ => rfl), mem_t (i := 826) (by decide +kernel)⟩
theorem f_M_22 : Fld "WhoSaysOneModel" 22 12 8 (.array .int) true true := ⟨"WhoSaysOneModel", ft_M, 40, fy_M, rfl, by decide, in_M, ok_M, nm_M, rfl, rfl, (fun _ _ => rfl), mem_t (i := 827) (by decide +kernel)⟩
theorem f_M_25 : Fld "WhoSaysOneModel" 25 12 9 (.array .byte) true true := ⟨"WhoSaysOneModel", ft_M, 40, fy_M, rfl, by decide, in_M, ok_M, nm_M, rfl, rfl, (fun _ _ => rfl), mem_t (i := 828) (by decide +kernel)⟩
theorem f_M_29 : Fld "WhoSaysOneModel" 29 12 10 (.array .int) true true := ⟨"WhoSaysOneModel", ft_M, 40, fy_M, rfl, by decide, in_M, ok_M, nm_M, rfl, rfl, (fun _ _ => rfl), mem_t (i := 829) (by decide +kernel)⟩
theorem f_M_172 : Fld "WhoSaysOneModel" 172 12 11 (.int) false true := ⟨"WhoSaysOneModel", ft_M, 40, fy_M, rfl, by decide, in_M, ok_M, nm_M, rfl, rfl, (fun _ _ => rfl), mem_t (i := 830) (by decide +kernel)⟩
theorem f_M_175 : Fld "WhoSaysOneModel" 175 12 12 (.int) false true := ⟨"WhoSaysOneModel", ft_M, 40, fy_M, rfl, by decide, in_M, ok_M, nm_M, rfl, rfl, (fun _ _ => rfl), mem_t (i := 831) (by decide +kernel)⟩
theorem f_M_32 : Fld "WhoSaysOneModel" 32 12 13 (.array .int) true true := ⟨"WhoSaysOneModel", ft_M, 40, fy_M, rfl, by decide, in_M, ok_M, nm_M, rfl, rfl, (fun _ _ => rfl), mem_t (i := 832) (by decide +kernel)⟩
theorem f_M_178 : Fld "WhoSaysOneModel" 178 12 14 (.int) false true := ⟨"WhoSaysOneModel", ft_M, 40, fy_M, rfl, by decide, in_M, ok_M, nm_M, rfl, rfl, (fun _ _ => rfl), mem_t (i := 833) (by decide +kernel)⟩
theorem f_M_35 : Fld "WhoSaysOneModel" 35 12 15 (.array .int) true true := ⟨"WhoSaysOneModel", ft_M, 40, fy_M, rfl, by decide, in_M, ok_M, nm_M, rfl, rfl, (fun _ _ => rfl), mem_t (i := 834) (by decide +kernel)⟩
theorem f_M_138 : Fld "WhoSaysOneModel" 138 12 16 (.int) false true := ⟨"WhoSaysOneModel", ft_M, 40, fy_M, rfl, by decide, in_M, ok_M, nm_M, rfl, rfl, (fun _ _ => rfl), mem_t (i := 835) (by decide +kernel)⟩
theorem f_M_148 : Fld "WhoSaysOneModel" 148 12 17 (.int) false true := ⟨"WhoSaysOneModel", ft_M, 40, fy_M, rfl, by decide, in_M, ok_M, nm_M, rfl, rfl, (fun _ _ => rfl), mem_t (i := 836) (by decide +kernel)⟩
theorem f_M_144 : Fld "WhoSaysOneModel" 144 12 18 (.boolean) false true := ⟨"WhoSaysOneModel", ft_M, 40, fy_M, rfl, by decide, in_M, ok_M, nm_M, rfl, rfl, (fun _ _ => rfl), mem_t (i := 837) (by decide +kernel)⟩
theorem f_M_163 : Fld "WhoSaysOneModel" 163 12 19 (.int) false true := ⟨"WhoSaysOneModel", ft_M, 40, fy_M, rfl, by decide, in_M, ok_M, nm_M, rfl, rfl, (fun _ _ => rfl), mem_t (i := 838) (by decide +kernel)⟩
theorem f_M_151 : Fld "WhoSaysOneModel" 151 12 20 (.int) false true := ⟨"WhoSaysOneModel", ft_M, 40, fy_M, rfl, by decide, in_M, ok_M, nm_M, rfl, rfl, (fun _ _ => rfl), mem_t (i := 839) (by decide +kernel)⟩
theorem f_M_38 : Fld "WhoSaysOneModel" 38 12 21 (.array .int) true true := ⟨"WhoSaysOneModel", ft_M, 40, fy_M, rfl, by decide, in_M, ok_M, nm_M, rfl, rfl, (fun _ _ => rfl), mem_t (i := 840) (by decide +kernel)⟩
theorem f_M_41 : Fld "WhoSaysOneModel" 41 12 22 (.array .int) true true := ⟨"WhoSaysOneModel", ft_M, 40, fy_M, rfl, by decide, in_M, ok_M, nm_M, rfl, rfl, (fun _ _ => rfl), mem_t (i := 841) (by decide +kernel)⟩
theorem f_M_44 : Fld "WhoSaysOneModel" 44 12 23 (.array .int) true true := ⟨"WhoSaysOneModel", ft_M, 40, fy_M, rfl, by decide, in_M, ok_M, nm_M, rfl, rfl, (fun _ _ => rfl), mem_t (i := 842) (by decide +kernel)⟩
theorem f_M_47 : Fld "WhoSaysOneModel" 47 12 24 (.array .int) true true := ⟨"WhoSaysOneModel", ft_M, 40, fy_M, rfl, by decide, in_M, ok_M, nm_M, rfl, rfl, (fun _ _ => rfl), mem_t (i := 843) (by decide +kernel)⟩
theorem f_M_50 : Fld "WhoSaysOneModel" 50 12 25 (.array .int) true true := ⟨"WhoSaysOneModel", ft_M, 40, fy_M, rfl, by decide, in_M, ok_M, nm_M, rfl, rfl, (fun _ _ => rfl), mem_t (i := 844) (by decide +kernel)⟩
theorem f_M_53 : Fld "WhoSaysOneModel" 53 12 26 (.array .long) true true := ⟨"WhoSaysOneModel", ft_M, 40, fy_M, rfl, by decide, in_M, ok_M, nm_M, rfl, rfl, (fun _ _ => rfl), mem_t (i := 845) (by decide +kernel)⟩
theorem f_M_57 : Fld "WhoSaysOneModel" 57 12 27 (.array .long) true true := ⟨"WhoSaysOneModel", ft_M, 40, fy_M, rfl, by decide, in_M, ok_M, nm_M, rfl, rfl, (fun _ _ => rfl), mem_t (i := 846) (by decide +kernel)⟩
theorem f_M_210 : Fld "WhoSaysOneModel" 210 12 28 (.int) false true := ⟨"WhoSaysOneModel", ft_M, 40, fy_M, rfl, by decide, in_M, ok_M, nm_M, rfl, rfl, (fun _ _ => rfl), mem_t (i := 847) (by decide +kernel)⟩
theorem f_M_60 : Fld "WhoSaysOneModel" 60 12 29 (.array .int) true true := ⟨"WhoSaysOneModel", ft_M, 40, fy_M, rfl, by decide, in_M, ok_M, nm_M, rfl, rfl, (fun _ _ => rfl), mem_t (i := 848) (by decide +kernel)⟩
theorem f_M_63 : Fld "WhoSaysOneModel" 63 12 30 (.array .int) true true := ⟨"WhoSaysOneModel", ft_M, 40, fy_M, rfl, by decide, in_M, ok_M, nm_M, rfl, rfl, (fun _ _ => rfl), mem_t (i := 849) (by decide +kernel)⟩
theorem f_M_66 : Fld "WhoSaysOneModel" 66 12 31 (.array .int) true true := ⟨"WhoSaysOneModel", ft_M, 40, fy_M, rfl, by decide, in_M, ok_M, nm_M, rfl, rfl, (fun _ _ => rfl), mem_t (i := 850) (by decide +kernel)⟩
theorem f_M_69 : Fld "WhoSaysOneModel" 69 12 32 (.array .boolean) true true := ⟨"WhoSaysOneModel", ft_M, 40, fy_M, rfl, by decide, in_M, ok_M, nm_M, rfl, rfl, (fun _ _ => rfl), mem_t (i := 851) (by decide +kernel)⟩
theorem f_M_73 : Fld "WhoSaysOneModel" 73 12 33 (.array .int) true true := ⟨"WhoSaysOneModel", ft_M, 40, fy_M, rfl, by decide, in_M, ok_M, nm_M, rfl, rfl, (fun _ _ => rfl), mem_t (i := 852) (by decide +kernel)⟩
theorem f_M_76 : Fld "WhoSaysOneModel" 76 12 34 (.array .int) true true := ⟨"WhoSaysOneModel", ft_M, 40, fy_M, rfl, by decide, in_M, ok_M, nm_M, rfl, rfl, (fun _ _ => rfl), mem_t (i := 853) (by decide +kernel)⟩
theorem f_M_269 : Fld "WhoSaysOneModel" 269 12 35 (.long) false true := ⟨"WhoSaysOneModel", ft_M, 40, fy_M, rfl, by decide, in_M, ok_M, nm_M, rfl, rfl, (fun _ _ => rfl), mem_t (i := 854) (by decide +kernel)⟩
theorem f_M_79 : Fld "WhoSaysOneModel" 79 12 36 (.array .boolean) true true := ⟨"WhoSaysOneModel", ft_M, 40, fy_M, rfl, by decide, in_M, ok_M, nm_M, rfl, rfl, (fun _ _ => rfl), mem_t (i := 855) (by decide +kernel)⟩
theorem f_M_82 : Fld "WhoSaysOneModel" 82 12 37 (.array .int) true true := ⟨"WhoSaysOneModel", ft_M, 40, fy_M, rfl, by decide, in_M, ok_M, nm_M, rfl, rfl, (fun _ _ => rfl), mem_t (i := 856) (by decide +kernel)⟩
theorem f_M_85 : Fld "WhoSaysOneModel" 85 12 38 (.array .int) true true := ⟨"WhoSaysOneModel", ft_M, 40, fy_M, rfl, by decide, in_M, ok_M, nm_M, rfl, rfl, (fun _ _ => rfl), mem_t (i := 857) (by decide +kernel)⟩
theorem f_M_318 : Fld "WhoSaysOneModel" 318 12 39 (.long) false true := ⟨"WhoSaysOneModel", ft_M, 40, fy_M, rfl, by decide, in_M, ok_M, nm_M, rfl, rfl, (fun _ _ => rfl), mem_t (i := 858) (by decide +kernel)⟩
theorem c_X_init : LkC y_X_init b_X_init 2 none 0 := ⟨⟨by decide, by decide, by decide +kernel⟩, mem_t (i := 23) (by decide +kernel), mem_t (i := 1) (by decide +kernel), by decide⟩
theorem c_Gm_init : LkC y_Gm_init b_Gm_init 1 none 0 := ⟨⟨by decide, by decide, by decide +kernel⟩, mem_t (i := 33) (by decide +kernel), mem_t (i := 2) (by decide +kernel), by decide⟩
theorem c_Pl_init : LkC y_Pl_init b_Pl_init 1 none 0 := ⟨⟨by decide, by decide, by decide +kernel⟩, mem_t (i := 63) (by decide +kernel), mem_t (i := 3) (by decide +kernel), by decide⟩
theorem c_Sm_init : LkC y_Sm_init b_Sm_init 1 none 0 := ⟨⟨by decide, by decide, by decide +kernel⟩, mem_t (i := 71) (by decide +kernel), mem_t (i := 4) (by decide +kernel), by decide⟩
theorem c_Pr_init : LkC y_Pr_init b_Pr_init 1 none 0 := ⟨⟨by decide, by decide, by decide +kernel⟩, mem_t (i := 78) (by decide +kernel), mem_t (i := 5) (by decide +kernel), by decide⟩
theorem c_Bs_init : LkC y_Bs_init b_Bs_init 1 none 0 := ⟨⟨by decide, by decide, by decide +kernel⟩, mem_t (i := 85) (by decide +kernel), mem_t (i := 6) (by decide +kernel), by decide⟩
theorem c_Lo_init : LkC y_Lo_init b_Lo_init 1 none 0 := ⟨⟨by decide, by decide, by decide +kernel⟩, mem_t (i := 92) (by decide +kernel), mem_t (i := 7) (by decide +kernel), by decide⟩
theorem c_Ch_init : LkC y_Ch_init b_Ch_init 1 none 0 := ⟨⟨by decide, by decide, by decide +kernel⟩, mem_t (i := 99) (by decide +kernel), mem_t (i := 8) (by decide +kernel), by decide⟩
theorem c_Rd_init : LkC y_Rd_init b_Rd_init 1 none 0 := ⟨⟨by decide, by decide, by decide +kernel⟩, mem_t (i := 106) (by decide +kernel), mem_t (i := 9) (by decide +kernel), by decide⟩
theorem c_Su_init : LkC y_Su_init b_Su_init 1 none 0 := ⟨⟨by decide, by decide, by decide +kernel⟩, mem_t (i := 130) (by decide +kernel), mem_t (i := 10) (by decide +kernel), by decide⟩
theorem c_So_init : LkC y_So_init b_So_init 1 none 0 := ⟨⟨by decide, by decide, by decide +kernel⟩, mem_t (i := 158) (by decide +kernel), mem_t (i := 11) (by decide +kernel), by decide⟩
theorem c_Rw_init : LkC y_Rw_init b_Rw_init 1 none 0 := ⟨⟨by decide, by decide, by decide +kernel⟩, mem_t (i := 176) (by decide +kernel), mem_t (i := 12) (by decide +kernel), by decide⟩
theorem c_X_row : LkC y_X_row b_X_row 3 (some .int) 2 := ⟨⟨by decide, by decide, by decide +kernel⟩, mem_t (i := 241) (by decide +kernel), mem_t (i := 1) (by decide +kernel), by decide⟩
theorem c_X_begin : LkC y_X_begin b_X_begin 5 (some .int) 4 := ⟨⟨by decide, by decide, by decide +kernel⟩, mem_t (i := 245) (by decide +kernel), mem_t (i := 1) (by decide +kernel), by decide⟩
theorem c_X_isIn : LkC y_X_isIn b_X_isIn 2 (some .boolean) 2 := ⟨⟨by decide, by decide, by decide +kernel⟩, mem_t (i := 248) (by decide +kernel), mem_t (i := 1) (by decide +kernel), by decide⟩
theorem c_X_found : LkC y_X_found b_X_found 2 (some .int) 1 := ⟨⟨by decide, by decide, by decide +kernel⟩, mem_t (i := 252) (by decide +kernel), mem_t (i := 1) (by decide +kernel), by decide⟩
theorem c_Rw_begin : LkC y_Rw_begin b_Rw_begin 3 none 2 := ⟨⟨by decide, by decide, by decide +kernel⟩, mem_t (i := 256) (by decide +kernel), mem_t (i := 12) (by decide +kernel), by decide⟩
theorem c_Ar_fillI : LkC y_Ar_fillI b_Ar_fillI 4 none 2 := ⟨⟨by decide, by decide, by decide +kernel⟩, mem_t (i := 259) (by decide +kernel), mem_t (i := 14) (by decide +kernel), by decide⟩
theorem c_X_lay : LkC y_X_lay b_X_lay 5 (some .int) 3 := ⟨⟨by decide, by decide, by decide +kernel⟩, mem_t (i := 263) (by decide +kernel), mem_t (i := 1) (by decide +kernel), by decide⟩
theorem c_X_refusedPlace : LkC y_X_refusedPlace b_X_refusedPlace 5 (some .int) 3 := ⟨⟨by decide, by decide, by decide +kernel⟩, mem_t (i := 267) (by decide +kernel), mem_t (i := 1) (by decide +kernel), by decide⟩
theorem c_X_refusedRow : LkC y_X_refusedRow b_X_refusedRow 3 (some .int) 2 := ⟨⟨by decide, by decide, by decide +kernel⟩, mem_t (i := 271) (by decide +kernel), mem_t (i := 1) (by decide +kernel), by decide⟩
theorem c_Rw_isThere : LkC y_Rw_isThere b_Rw_isThere 1 (some .boolean) 0 := ⟨⟨by decide, by decide, by decide +kernel⟩, mem_t (i := 275) (by decide +kernel), mem_t (i := 12) (by decide +kernel), by decide⟩
theorem c_X_at : LkC y_X_at b_X_at 4 (some .int) 2 := ⟨⟨by decide, by decide, by decide +kernel⟩, mem_t (i := 279) (by decide +kernel), mem_t (i := 1) (by decide +kernel), by decide⟩
theorem c_X_tear : LkC y_X_tear b_X_tear 3 (some .int) 1 := ⟨⟨by decide, by decide, by decide +kernel⟩, mem_t (i := 283) (by decide +kernel), mem_t (i := 1) (by decide +kernel), by decide⟩
theorem c_X_copy : LkC y_X_copy b_X_copy 6 (some .int) 5 := ⟨⟨by decide, by decide, by decide +kernel⟩, mem_t (i := 287) (by decide +kernel), mem_t (i := 1) (by decide +kernel), by decide⟩
theorem c_Rw_holdsRun : LkC y_Rw_holdsRun b_Rw_holdsRun 3 (some .boolean) 2 := ⟨⟨by decide, by decide, by decide +kernel⟩, mem_t (i := 291) (by decide +kernel), mem_t (i := 12) (by decide +kernel), by decide⟩
theorem c_X_mean : LkC y_X_mean b_X_mean 7 (some .int) 1 := ⟨⟨by decide, by decide, by decide +kernel⟩, mem_t (i := 298) (by decide +kernel), mem_t (i := 1) (by decide +kernel), by decide⟩
theorem c_X_text : LkC y_X_text b_X_text 3 (some .int) 2 := ⟨⟨by decide, by decide, by decide +kernel⟩, mem_t (i := 302) (by decide +kernel), mem_t (i := 1) (by decide +kernel), by decide⟩
theorem c_X_put : LkC y_X_put b_X_put 6 (some .int) 3 := ⟨⟨by decide, by decide, by decide +kernel⟩, mem_t (i := 306) (by decide +kernel), mem_t (i := 1) (by decide +kernel), by decide⟩
theorem c_X_fault : LkC y_X_fault b_X_fault 3 (some .int) 1 := ⟨⟨by decide, by decide, by decide +kernel⟩, mem_t (i := 310) (by decide +kernel), mem_t (i := 1) (by decide +kernel), by decide⟩
theorem c_Rd_faultOf : LkC y_Rd_faultOf b_Rd_faultOf 4 (some .int) 1 := ⟨⟨by decide, by decide, by decide +kernel⟩, mem_t (i := 314) (by decide +kernel), mem_t (i := 9) (by decide +kernel), by decide⟩
theorem c_Gm_begin : LkC y_Gm_begin b_Gm_begin 2 none 1 := ⟨⟨by decide, by decide, by decide +kernel⟩, mem_t (i := 318) (by decide +kernel), mem_t (i := 2) (by decide +kernel), by decide⟩
theorem c_Rd_takesItem : LkC y_Rd_takesItem b_Rd_takesItem 3 (some .boolean) 2 := ⟨⟨by decide, by decide, by decide +kernel⟩, mem_t (i := 322) (by decide +kernel), mem_t (i := 9) (by decide +kernel), by decide⟩
theorem c_Rd_takesLaw : LkC y_Rd_takesLaw b_Rd_takesLaw 3 (some .boolean) 1 := ⟨⟨by decide, by decide, by decide +kernel⟩, mem_t (i := 326) (by decide +kernel), mem_t (i := 9) (by decide +kernel), by decide⟩
theorem c_Rd_figureHere : LkC y_Rd_figureHere b_Rd_figureHere 3 (some .int) 1 := ⟨⟨by decide, by decide, by decide +kernel⟩, mem_t (i := 330) (by decide +kernel), mem_t (i := 9) (by decide +kernel), by decide⟩
theorem c_Rd_takesNumber : LkC y_Rd_takesNumber b_Rd_takesNumber 4 (some .boolean) 1 := ⟨⟨by decide, by decide, by decide +kernel⟩, mem_t (i := 335) (by decide +kernel), mem_t (i := 9) (by decide +kernel), by decide⟩
theorem c_Gm_isOpen : LkC y_Gm_isOpen b_Gm_isOpen 2 (some .boolean) 1 := ⟨⟨by decide, by decide, by decide +kernel⟩, mem_t (i := 339) (by decide +kernel), mem_t (i := 2) (by decide +kernel), by decide⟩
theorem c_Gm_open : LkC y_Gm_open b_Gm_open 1 (some .long) 0 := ⟨⟨by decide, by decide, by decide +kernel⟩, mem_t (i := 343) (by decide +kernel), mem_t (i := 2) (by decide +kernel), by decide⟩
theorem c_Gm_add : LkC y_Gm_add b_Gm_add 2 none 1 := ⟨⟨by decide, by decide, by decide +kernel⟩, mem_t (i := 349) (by decide +kernel), mem_t (i := 2) (by decide +kernel), by decide⟩
theorem c_Gm_reachedWith : LkC y_Gm_reachedWith b_Gm_reachedWith 2 (some .long) 1 := ⟨⟨by decide, by decide, by decide +kernel⟩, mem_t (i := 354) (by decide +kernel), mem_t (i := 2) (by decide +kernel), by decide⟩
theorem c_Gm_widened : LkC y_Gm_widened b_Gm_widened 9 (some .long) 3 := ⟨⟨by decide, by decide, by decide +kernel⟩, mem_t (i := 357) (by decide +kernel), mem_t (i := 2) (by decide +kernel), by decide⟩
theorem c_X_lowestOf : LkC y_X_lowestOf b_X_lowestOf 3 (some .int) 1 := ⟨⟨by decide, by decide, by decide +kernel⟩, mem_t (i := 361) (by decide +kernel), mem_t (i := 1) (by decide +kernel), by decide⟩
theorem c_X_divisorOf : LkC y_X_divisorOf b_X_divisorOf 6 (some .int) 2 := ⟨⟨by decide, by decide, by decide +kernel⟩, mem_t (i := 364) (by decide +kernel), mem_t (i := 1) (by decide +kernel), by decide⟩
theorem c_Rd_takesPlayer : LkC y_Rd_takesPlayer b_Rd_takesPlayer 2 (some .boolean) 1 := ⟨⟨by decide, by decide, by decide +kernel⟩, mem_t (i := 368) (by decide +kernel), mem_t (i := 9) (by decide +kernel), by decide⟩
theorem c_X_game : LkC y_X_game b_X_game 4 (some .int) 1 := ⟨⟨by decide, by decide, by decide +kernel⟩, mem_t (i := 372) (by decide +kernel), mem_t (i := 1) (by decide +kernel), by decide⟩
theorem c_Gm_become : LkC y_Gm_become b_Gm_become 2 none 1 := ⟨⟨by decide, by decide, by decide +kernel⟩, mem_t (i := 376) (by decide +kernel), mem_t (i := 2) (by decide +kernel), by decide⟩
theorem c_X_law : LkC y_X_law b_X_law 1 (some .int) 0 := ⟨⟨by decide, by decide, by decide +kernel⟩, mem_t (i := 381) (by decide +kernel), mem_t (i := 1) (by decide +kernel), by decide⟩
theorem c_X_player : LkC y_X_player b_X_player 2 (some .int) 1 := ⟨⟨by decide, by decide, by decide +kernel⟩, mem_t (i := 385) (by decide +kernel), mem_t (i := 1) (by decide +kernel), by decide⟩
theorem c_X_mark : LkC y_X_mark b_X_mark 4 (some .int) 2 := ⟨⟨by decide, by decide, by decide +kernel⟩, mem_t (i := 389) (by decide +kernel), mem_t (i := 1) (by decide +kernel), by decide⟩
theorem c_X_playerAt : LkC y_X_playerAt b_X_playerAt 2 (some (.object "WhoSaysOne$Player")) 1 := ⟨⟨by decide, by decide, by decide +kernel⟩, mem_t (i := 393) (by decide +kernel), mem_t (i := 1) (by decide +kernel), by decide⟩
theorem c_X_isOf : LkC y_X_isOf b_X_isOf 2 (some .boolean) 2 := ⟨⟨by decide, by decide, by decide +kernel⟩, mem_t (i := 396) (by decide +kernel), mem_t (i := 1) (by decide +kernel), by decide⟩
theorem c_Gm_isOver : LkC y_Gm_isOver b_Gm_isOver 1 (some .boolean) 0 := ⟨⟨by decide, by decide, by decide +kernel⟩, mem_t (i := 400) (by decide +kernel), mem_t (i := 2) (by decide +kernel), by decide⟩
theorem c_Gm_last : LkC y_Gm_last b_Gm_last 1 (some .int) 0 := ⟨⟨by decide, by decide, by decide +kernel⟩, mem_t (i := 404) (by decide +kernel), mem_t (i := 2) (by decide +kernel), by decide⟩
theorem c_Bs_choice : LkC y_Bs_choice b_Bs_choice 5 (some .int) 3 := ⟨⟨by decide, by decide, by decide +kernel⟩, mem_t (i := 411) (by decide +kernel), mem_t (i := 6) (by decide +kernel), by decide⟩
theorem c_So_load : LkC y_So_load b_So_load 4 (some .boolean) 1 := ⟨⟨by decide, by decide, by decide +kernel⟩, mem_t (i := 415) (by decide +kernel), mem_t (i := 11) (by decide +kernel), by decide⟩
theorem c_Lg_bitCount : LkC y_Lg_bitCount b_Lg_bitCount 2 (some .int) 1 := ⟨⟨by decide, by decide, by decide +kernel⟩, mem_t (i := 419) (by decide +kernel), mem_t (i := 16) (by decide +kernel), by decide⟩
theorem c_So_leastWin : LkC y_So_leastWin b_So_leastWin 2 (some .int) 0 := ⟨⟨by decide, by decide, by decide +kernel⟩, mem_t (i := 427) (by decide +kernel), mem_t (i := 11) (by decide +kernel), by decide⟩
theorem c_So_winsBy : LkC y_So_winsBy b_So_winsBy 2 (some .boolean) 1 := ⟨⟨by decide, by decide, by decide +kernel⟩, mem_t (i := 431) (by decide +kernel), mem_t (i := 11) (by decide +kernel), by decide⟩
theorem c_So_gapsBehind : LkC y_So_gapsBehind b_So_gapsBehind 4 (some .int) 2 := ⟨⟨by decide, by decide, by decide +kernel⟩, mem_t (i := 434) (by decide +kernel), mem_t (i := 11) (by decide +kernel), by decide⟩
theorem c_So_solved : LkC y_So_solved b_So_solved 8 (some .int) 3 := ⟨⟨by decide, by decide, by decide +kernel⟩, mem_t (i := 438) (by decide +kernel), mem_t (i := 11) (by decide +kernel), by decide⟩
theorem c_So_slotOf : LkC y_So_slotOf b_So_slotOf 5 (some .int) 1 := ⟨⟨by decide, by decide, by decide +kernel⟩, mem_t (i := 442) (by decide +kernel), mem_t (i := 11) (by decide +kernel), by decide⟩
theorem c_Ma_min : LkC y_Ma_min b_Ma_min 2 (some .int) 2 := ⟨⟨by decide, by decide, by decide +kernel⟩, mem_t (i := 446) (by decide +kernel), mem_t (i := 17) (by decide +kernel), by decide⟩
theorem c_So_isWin : LkC y_So_isWin b_So_isWin 1 (some .boolean) 1 := ⟨⟨by decide, by decide, by decide +kernel⟩, mem_t (i := 449) (by decide +kernel), mem_t (i := 11) (by decide +kernel), by decide⟩
theorem c_So_remember : LkC y_So_remember b_So_remember 4 none 2 := ⟨⟨by decide, by decide, by decide +kernel⟩, mem_t (i := 453) (by decide +kernel), mem_t (i := 11) (by decide +kernel), by decide⟩
theorem c_Gm_leastAboveOne : LkC y_Gm_leastAboveOne b_Gm_leastAboveOne 3 (some .int) 0 := ⟨⟨by decide, by decide, by decide +kernel⟩, mem_t (i := 457) (by decide +kernel), mem_t (i := 2) (by decide +kernel), by decide⟩
theorem c_Gm_openAboveOne : LkC y_Gm_openAboveOne b_Gm_openAboveOne 1 (some .long) 0 := ⟨⟨by decide, by decide, by decide +kernel⟩, mem_t (i := 461) (by decide +kernel), mem_t (i := 2) (by decide +kernel), by decide⟩
theorem c_Ch_choice : LkC y_Ch_choice b_Ch_choice 9 (some .int) 3 := ⟨⟨by decide, by decide, by decide +kernel⟩, mem_t (i := 465) (by decide +kernel), mem_t (i := 8) (by decide +kernel), by decide⟩
theorem c_Pr_choice : LkC y_Pr_choice b_Pr_choice 5 (some .int) 3 := ⟨⟨by decide, by decide, by decide +kernel⟩, mem_t (i := 468) (by decide +kernel), mem_t (i := 5) (by decide +kernel), by decide⟩
theorem c_Gm_pairNumber : LkC y_Gm_pairNumber b_Gm_pairNumber 1 (some .int) 0 := ⟨⟨by decide, by decide, by decide +kernel⟩, mem_t (i := 472) (by decide +kernel), mem_t (i := 2) (by decide +kernel), by decide⟩
theorem c_X_highestOf : LkC y_X_highestOf b_X_highestOf 3 (some .int) 1 := ⟨⟨by decide, by decide, by decide +kernel⟩, mem_t (i := 475) (by decide +kernel), mem_t (i := 1) (by decide +kernel), by decide⟩
theorem c_Sm_choice : LkC y_Sm_choice b_Sm_choice 8 (some .int) 3 := ⟨⟨by decide, by decide, by decide +kernel⟩, mem_t (i := 483) (by decide +kernel), mem_t (i := 4) (by decide +kernel), by decide⟩
theorem c_Gm_openBehind : LkC y_Gm_openBehind b_Gm_openBehind 2 (some .int) 1 := ⟨⟨by decide, by decide, by decide +kernel⟩, mem_t (i := 488) (by decide +kernel), mem_t (i := 2) (by decide +kernel), by decide⟩
theorem c_Lo_isBetter : LkC y_Lo_isBetter b_Lo_isBetter 3 (some .boolean) 2 := ⟨⟨by decide, by decide, by decide +kernel⟩, mem_t (i := 496) (by decide +kernel), mem_t (i := 7) (by decide +kernel), by decide⟩
theorem c_Sm_isBetter : LkC y_Sm_isBetter b_Sm_isBetter 3 (some .boolean) 2 := ⟨⟨by decide, by decide, by decide +kernel⟩, mem_t (i := 497) (by decide +kernel), mem_t (i := 4) (by decide +kernel), by decide⟩
theorem c_Pl_choice : LkC y_Pl_choice b_Pl_choice 4 (some .int) 3 := ⟨⟨by decide, by decide, by decide +kernel⟩, mem_t (i := 500) (by decide +kernel), mem_t (i := 3) (by decide +kernel), by decide⟩
theorem c_So_winCount : LkC y_So_winCount b_So_winCount 3 (some .int) 0 := ⟨⟨by decide, by decide, by decide +kernel⟩, mem_t (i := 509) (by decide +kernel), mem_t (i := 11) (by decide +kernel), by decide⟩
theorem c_Gm_openCount : LkC y_Gm_openCount b_Gm_openCount 1 (some .int) 0 := ⟨⟨by decide, by decide, by decide +kernel⟩, mem_t (i := 513) (by decide +kernel), mem_t (i := 2) (by decide +kernel), by decide⟩
theorem c_X_say : LkC y_X_say b_X_say 2 (some .int) 1 := ⟨⟨by decide, by decide, by decide +kernel⟩, mem_t (i := 519) (by decide +kernel), mem_t (i := 1) (by decide +kernel), by decide⟩
theorem c_X_may : LkC y_X_may b_X_may 2 (some .int) 1 := ⟨⟨by decide, by decide, by decide +kernel⟩, mem_t (i := 525) (by decide +kernel), mem_t (i := 1) (by decide +kernel), by decide⟩
theorem c_X_said : LkC y_X_said b_X_said 2 (some .int) 1 := ⟨⟨by decide, by decide, by decide +kernel⟩, mem_t (i := 529) (by decide +kernel), mem_t (i := 1) (by decide +kernel), by decide⟩
theorem c_X_undo : LkC y_X_undo b_X_undo 3 (some .int) 1 := ⟨⟨by decide, by decide, by decide +kernel⟩, mem_t (i := 533) (by decide +kernel), mem_t (i := 1) (by decide +kernel), by decide⟩
theorem c_Gm_cut : LkC y_Gm_cut b_Gm_cut 2 none 1 := ⟨⟨by decide, by decide, by decide +kernel⟩, mem_t (i := 537) (by decide +kernel), mem_t (i := 2) (by decide +kernel), by decide⟩
theorem c_Gm_reachedWithout : LkC y_Gm_reachedWithout b_Gm_reachedWithout 5 (some .long) 1 := ⟨⟨by decide, by decide, by decide +kernel⟩, mem_t (i := 541) (by decide +kernel), mem_t (i := 2) (by decide +kernel), by decide⟩
theorem c_X_turn : LkC y_X_turn b_X_turn 1 (some .int) 0 := ⟨⟨by decide, by decide, by decide +kernel⟩, mem_t (i := 545) (by decide +kernel), mem_t (i := 1) (by decide +kernel), by decide⟩
theorem c_Gm_loser : LkC y_Gm_loser b_Gm_loser 1 (some .int) 0 := ⟨⟨by decide, by decide, by decide +kernel⟩, mem_t (i := 549) (by decide +kernel), mem_t (i := 2) (by decide +kernel), by decide⟩
theorem c_X_keep : LkC y_X_keep b_X_keep 2 (some .int) 1 := ⟨⟨by decide, by decide, by decide +kernel⟩, mem_t (i := 554) (by decide +kernel), mem_t (i := 1) (by decide +kernel), by decide⟩
theorem c_X_on : LkC y_X_on b_X_on 2 (some .int) 1 := ⟨⟨by decide, by decide, by decide +kernel⟩, mem_t (i := 558) (by decide +kernel), mem_t (i := 1) (by decide +kernel), by decide⟩
theorem c_X_had : LkC y_X_had b_X_had 3 (some .int) 1 := ⟨⟨by decide, by decide, by decide +kernel⟩, mem_t (i := 562) (by decide +kernel), mem_t (i := 1) (by decide +kernel), by decide⟩
theorem c_Gm_divisor : LkC y_Gm_divisor b_Gm_divisor 3 (some .int) 0 := ⟨⟨by decide, by decide, by decide +kernel⟩, mem_t (i := 566) (by decide +kernel), mem_t (i := 2) (by decide +kernel), by decide⟩
theorem c_Su_fewest : LkC y_Su_fewest b_Su_fewest 4 (some .int) 2 := ⟨⟨by decide, by decide, by decide +kernel⟩, mem_t (i := 570) (by decide +kernel), mem_t (i := 10) (by decide +kernel), by decide⟩
theorem c_Su_takeThrice : LkC y_Su_takeThrice b_Su_takeThrice 5 none 2 := ⟨⟨by decide, by decide, by decide +kernel⟩, mem_t (i := 576) (by decide +kernel), mem_t (i := 10) (by decide +kernel), by decide⟩
theorem c_Su_takeOften : LkC y_Su_takeOften b_Su_takeOften 4 none 2 := ⟨⟨by decide, by decide, by decide +kernel⟩, mem_t (i := 581) (by decide +kernel), mem_t (i := 10) (by decide +kernel), by decide⟩
theorem c_X_ways : LkC y_X_ways b_X_ways 2 (some .int) 1 := ⟨⟨by decide, by decide, by decide +kernel⟩, mem_t (i := 586) (by decide +kernel), mem_t (i := 1) (by decide +kernel), by decide⟩
theorem c_Su_waysOf : LkC y_Su_waysOf b_Su_waysOf 6 (some .long) 2 := ⟨⟨by decide, by decide, by decide +kernel⟩, mem_t (i := 590) (by decide +kernel), mem_t (i := 10) (by decide +kernel), by decide⟩
theorem c_Ar_fillJ : LkC y_Ar_fillJ b_Ar_fillJ 5 none 2 := ⟨⟨by decide, by decide, by decide +kernel⟩, mem_t (i := 593) (by decide +kernel), mem_t (i := 14) (by decide +kernel), by decide⟩
theorem c_X_tellFraction : LkC y_X_tellFraction b_X_tellFraction 6 none 2 := ⟨⟨by decide, by decide, by decide +kernel⟩, mem_t (i := 597) (by decide +kernel), mem_t (i := 1) (by decide +kernel), by decide⟩
theorem c_X_byJust : LkC y_X_byJust b_X_byJust 3 (some .int) 2 := ⟨⟨by decide, by decide, by decide +kernel⟩, mem_t (i := 602) (by decide +kernel), mem_t (i := 1) (by decide +kernel), by decide⟩
theorem c_Su_waysByJust : LkC y_Su_waysByJust b_Su_waysByJust 8 (some .long) 3 := ⟨⟨by decide, by decide, by decide +kernel⟩, mem_t (i := 606) (by decide +kernel), mem_t (i := 10) (by decide +kernel), by decide⟩
theorem c_X_gaps : LkC y_X_gaps b_X_gaps 3 (some .int) 1 := ⟨⟨by decide, by decide, by decide +kernel⟩, mem_t (i := 610) (by decide +kernel), mem_t (i := 1) (by decide +kernel), by decide⟩
theorem c_Su_load : LkC y_Su_load b_Su_load 3 none 1 := ⟨⟨by decide, by decide, by decide +kernel⟩, mem_t (i := 614) (by decide +kernel), mem_t (i := 10) (by decide +kernel), by decide⟩
theorem c_Su_widen : LkC y_Su_widen b_Su_widen 9 none 3 := ⟨⟨by decide, by decide, by decide +kernel⟩, mem_t (i := 618) (by decide +kernel), mem_t (i := 10) (by decide +kernel), by decide⟩
theorem c_Su_isEndless : LkC y_Su_isEndless b_Su_isEndless 1 (some .boolean) 0 := ⟨⟨by decide, by decide, by decide +kernel⟩, mem_t (i := 623) (by decide +kernel), mem_t (i := 10) (by decide +kernel), by decide⟩
theorem c_Su_greatestOf : LkC y_Su_greatestOf b_Su_greatestOf 4 (some .int) 2 := ⟨⟨by decide, by decide, by decide +kernel⟩, mem_t (i := 626) (by decide +kernel), mem_t (i := 10) (by decide +kernel), by decide⟩
theorem c_Ma_max : LkC y_Ma_max b_Ma_max 2 (some .int) 2 := ⟨⟨by decide, by decide, by decide +kernel⟩, mem_t (i := 629) (by decide +kernel), mem_t (i := 17) (by decide +kernel), by decide⟩
theorem c_Su_greatestGap : LkC y_Su_greatestGap b_Su_greatestGap 1 (some .int) 0 := ⟨⟨by decide, by decide, by decide +kernel⟩, mem_t (i := 633) (by decide +kernel), mem_t (i := 10) (by decide +kernel), by decide⟩
theorem c_Su_isHad : LkC y_Su_isHad b_Su_isHad 2 (some .boolean) 1 := ⟨⟨by decide, by decide, by decide +kernel⟩, mem_t (i := 637) (by decide +kernel), mem_t (i := 10) (by decide +kernel), by decide⟩
theorem c_Rw_add : LkC y_Rw_add b_Rw_add 2 none 1 := ⟨⟨by decide, by decide, by decide +kernel⟩, mem_t (i := 641) (by decide +kernel), mem_t (i := 12) (by decide +kernel), by decide⟩
theorem c_Su_gapCount : LkC y_Su_gapCount b_Su_gapCount 3 (some .int) 0 := ⟨⟨by decide, by decide, by decide +kernel⟩, mem_t (i := 646) (by decide +kernel), mem_t (i := 10) (by decide +kernel), by decide⟩
theorem c_X_greatest : LkC y_X_greatest b_X_greatest 1 (some .int) 0 := ⟨⟨by decide, by decide, by decide +kernel⟩, mem_t (i := 650) (by decide +kernel), mem_t (i := 1) (by decide +kernel), by decide⟩
theorem c_X_rest : LkC y_X_rest b_X_rest 4 (some .int) 2 := ⟨⟨by decide, by decide, by decide +kernel⟩, mem_t (i := 654) (by decide +kernel), mem_t (i := 1) (by decide +kernel), by decide⟩
theorem c_X_needed : LkC y_X_needed b_X_needed 2 (some .int) 0 := ⟨⟨by decide, by decide, by decide +kernel⟩, mem_t (i := 658) (by decide +kernel), mem_t (i := 1) (by decide +kernel), by decide⟩
theorem c_Gm_neededBits : LkC y_Gm_neededBits b_Gm_neededBits 3 (some .int) 0 := ⟨⟨by decide, by decide, by decide +kernel⟩, mem_t (i := 662) (by decide +kernel), mem_t (i := 2) (by decide +kernel), by decide⟩
theorem c_In_bitCount : LkC y_In_bitCount b_In_bitCount 1 (some .int) 1 := ⟨⟨by decide, by decide, by decide +kernel⟩, mem_t (i := 665) (by decide +kernel), mem_t (i := 18) (by decide +kernel), by decide⟩
theorem c_X_common : LkC y_X_common b_X_common 1 (some .int) 0 := ⟨⟨by decide, by decide, by decide +kernel⟩, mem_t (i := 672) (by decide +kernel), mem_t (i := 1) (by decide +kernel), by decide⟩
theorem c_X_from : LkC y_X_from b_X_from 1 (some .int) 0 := ⟨⟨by decide, by decide, by decide +kernel⟩, mem_t (i := 676) (by decide +kernel), mem_t (i := 1) (by decide +kernel), by decide⟩
theorem c_X_wish : LkC y_X_wish b_X_wish 5 (some .int) 1 := ⟨⟨by decide, by decide, by decide +kernel⟩, mem_t (i := 680) (by decide +kernel), mem_t (i := 1) (by decide +kernel), by decide⟩
theorem c_Su_greatestWith : LkC y_Su_greatestWith b_Su_greatestWith 2 (some .int) 1 := ⟨⟨by decide, by decide, by decide +kernel⟩, mem_t (i := 684) (by decide +kernel), mem_t (i := 10) (by decide +kernel), by decide⟩
theorem c_X_whose : LkC y_X_whose b_X_whose 2 (some .int) 0 := ⟨⟨by decide, by decide, by decide +kernel⟩, mem_t (i := 689) (by decide +kernel), mem_t (i := 1) (by decide +kernel), by decide⟩
theorem c_X_refusedSolving : LkC y_X_refusedSolving b_X_refusedSolving 1 (some .int) 0 := ⟨⟨by decide, by decide, by decide +kernel⟩, mem_t (i := 693) (by decide +kernel), mem_t (i := 1) (by decide +kernel), by decide⟩
theorem c_X_best : LkC y_X_best b_X_best 4 (some .int) 1 := ⟨⟨by decide, by decide, by decide +kernel⟩, mem_t (i := 697) (by decide +kernel), mem_t (i := 1) (by decide +kernel), by decide⟩
theorem c_X_lasts : LkC y_X_lasts b_X_lasts 2 (some .int) 0 := ⟨⟨by decide, by decide, by decide +kernel⟩, mem_t (i := 702) (by decide +kernel), mem_t (i := 1) (by decide +kernel), by decide⟩
theorem c_So_shortest : LkC y_So_shortest b_So_shortest 1 (some .int) 0 := ⟨⟨by decide, by decide, by decide +kernel⟩, mem_t (i := 706) (by decide +kernel), mem_t (i := 11) (by decide +kernel), by decide⟩
theorem c_So_gapCount : LkC y_So_gapCount b_So_gapCount 1 (some .int) 0 := ⟨⟨by decide, by decide, by decide +kernel⟩, mem_t (i := 710) (by decide +kernel), mem_t (i := 11) (by decide +kernel), by decide⟩
theorem c_X_share : LkC y_X_share b_X_share 3 (some .int) 0 := ⟨⟨by decide, by decide, by decide +kernel⟩, mem_t (i := 715) (by decide +kernel), mem_t (i := 1) (by decide +kernel), by decide⟩
theorem c_X_says : LkC y_X_says b_X_says 2 (some .int) 1 := ⟨⟨by decide, by decide, by decide +kernel⟩, mem_t (i := 719) (by decide +kernel), mem_t (i := 1) (by decide +kernel), by decide⟩
theorem c_X_play : LkC y_X_play b_X_play 6 (some .int) 2 := ⟨⟨by decide, by decide, by decide +kernel⟩, mem_t (i := 723) (by decide +kernel), mem_t (i := 1) (by decide +kernel), by decide⟩
theorem c_X_list : LkC y_X_list b_X_list 5 (some .int) 1 := ⟨⟨by decide, by decide, by decide +kernel⟩, mem_t (i := 729) (by decide +kernel), mem_t (i := 1) (by decide +kernel), by decide⟩
theorem c_Rw_asBits : LkC y_Rw_asBits b_Rw_asBits 5 (some .long) 0 := ⟨⟨by decide, by decide, by decide +kernel⟩, mem_t (i := 733) (by decide +kernel), mem_t (i := 12) (by decide +kernel), by decide⟩
theorem c_X_leastPaid : LkC y_X_leastPaid b_X_leastPaid 3 (some .int) 1 := ⟨⟨by decide, by decide, by decide +kernel⟩, mem_t (i := 737) (by decide +kernel), mem_t (i := 1) (by decide +kernel), by decide⟩
theorem c_X_isGap : LkC y_X_isGap b_X_isGap 3 (some .boolean) 2 := ⟨⟨by decide, by decide, by decide +kernel⟩, mem_t (i := 740) (by decide +kernel), mem_t (i := 1) (by decide +kernel), by decide⟩
theorem c_X_isPaid : LkC y_X_isPaid b_X_isPaid 4 (some .boolean) 2 := ⟨⟨by decide, by decide, by decide +kernel⟩, mem_t (i := 743) (by decide +kernel), mem_t (i := 1) (by decide +kernel), by decide⟩
theorem c_X_makes : LkC y_X_makes b_X_makes 8 (some .int) 2 := ⟨⟨by decide, by decide, by decide +kernel⟩, mem_t (i := 747) (by decide +kernel), mem_t (i := 1) (by decide +kernel), by decide⟩
theorem c_X_isMaker : LkC y_X_isMaker b_X_isMaker 3 (some .boolean) 2 := ⟨⟨by decide, by decide, by decide +kernel⟩, mem_t (i := 750) (by decide +kernel), mem_t (i := 1) (by decide +kernel), by decide⟩
theorem c_X_tree : LkC y_X_tree b_X_tree 3 (some .int) 2 := ⟨⟨by decide, by decide, by decide +kernel⟩, mem_t (i := 754) (by decide +kernel), mem_t (i := 1) (by decide +kernel), by decide⟩
theorem c_X_setsBelow : LkC y_X_setsBelow b_X_setsBelow 8 (some .int) 4 := ⟨⟨by decide, by decide, by decide +kernel⟩, mem_t (i := 757) (by decide +kernel), mem_t (i := 1) (by decide +kernel), by decide⟩
theorem c_X_asked : LkC y_X_asked b_X_asked 1 (some .int) 0 := ⟨⟨by decide, by decide, by decide +kernel⟩, mem_t (i := 764) (by decide +kernel), mem_t (i := 1) (by decide +kernel), by decide⟩
theorem c_X_upper : LkC y_X_upper b_X_upper 1 (some .long) 0 := ⟨⟨by decide, by decide, by decide +kernel⟩, mem_t (i := 768) (by decide +kernel), mem_t (i := 1) (by decide +kernel), by decide⟩
theorem c_X_lower : LkC y_X_lower b_X_lower 1 (some .long) 0 := ⟨⟨by decide, by decide, by decide +kernel⟩, mem_t (i := 772) (by decide +kernel), mem_t (i := 1) (by decide +kernel), by decide⟩
theorem c_X_count : LkC y_X_count b_X_count 2 (some .int) 1 := ⟨⟨by decide, by decide, by decide +kernel⟩, mem_t (i := 776) (by decide +kernel), mem_t (i := 1) (by decide +kernel), by decide⟩
theorem c_X_playersOf : LkC y_X_playersOf b_X_playersOf 4 (some .int) 1 := ⟨⟨by decide, by decide, by decide +kernel⟩, mem_t (i := 780) (by decide +kernel), mem_t (i := 1) (by decide +kernel), by decide⟩
theorem c_X_keptCount : LkC y_X_keptCount b_X_keptCount 3 (some .int) 0 := ⟨⟨by decide, by decide, by decide +kernel⟩, mem_t (i := 784) (by decide +kernel), mem_t (i := 1) (by decide +kernel), by decide⟩
theorem c_X_thereOf : LkC y_X_thereOf b_X_thereOf 3 (some .int) 1 := ⟨⟨by decide, by decide, by decide +kernel⟩, mem_t (i := 787) (by decide +kernel), mem_t (i := 1) (by decide +kernel), by decide⟩
theorem c_X_finding : LkC y_X_finding b_X_finding 1 (some .int) 0 := ⟨⟨by decide, by decide, by decide +kernel⟩, mem_t (i := 791) (by decide +kernel), mem_t (i := 1) (by decide +kernel), by decide⟩
theorem c_X_findings : LkC y_X_findings b_X_findings 2 (some .int) 1 := ⟨⟨by decide, by decide, by decide +kernel⟩, mem_t (i := 795) (by decide +kernel), mem_t (i := 1) (by decide +kernel), by decide⟩
theorem c_X_digest : LkC y_X_digest b_X_digest 4 (some .long) 0 := ⟨⟨by decide, by decide, by decide +kernel⟩, mem_t (i := 799) (by decide +kernel), mem_t (i := 1) (by decide +kernel), by decide⟩
theorem c_Gm_digestNumbers : LkC y_Gm_digestNumbers b_Gm_digestNumbers 6 (some .long) 1 := ⟨⟨by decide, by decide, by decide +kernel⟩, mem_t (i := 806) (by decide +kernel), mem_t (i := 2) (by decide +kernel), by decide⟩
theorem c_Rw_digestPlaces : LkC y_Rw_digestPlaces b_Rw_digestPlaces 6 (some .long) 1 := ⟨⟨by decide, by decide, by decide +kernel⟩, mem_t (i := 811) (by decide +kernel), mem_t (i := 12) (by decide +kernel), by decide⟩
theorem c_M_init : LkC y_M_init b_M_init 2 none 0 := ⟨⟨by decide, by decide, by decide +kernel⟩, mem_t (i := 817) (by decide +kernel), mem_t (i := 13) (by decide +kernel), by decide⟩
theorem c_M_finding : LkC y_M_finding b_M_finding 1 (some .int) 0 := ⟨⟨by decide, by decide, by decide +kernel⟩, mem_t (i := 944) (by decide +kernel), mem_t (i := 13) (by decide +kernel), by decide⟩
theorem c_M_findings : LkC y_M_findings b_M_findings 2 (some .int) 1 := ⟨⟨by decide, by decide, by decide +kernel⟩, mem_t (i := 948) (by decide +kernel), mem_t (i := 13) (by decide +kernel), by decide⟩
theorem c_M_in : LkC y_M_in b_M_in 3 (some .boolean) 3 := ⟨⟨by decide, by decide, by decide +kernel⟩, mem_t (i := 951) (by decide +kernel), mem_t (i := 13) (by decide +kernel), by decide⟩
theorem c_M_asked : LkC y_M_asked b_M_asked 1 (some .int) 0 := ⟨⟨by decide, by decide, by decide +kernel⟩, mem_t (i := 955) (by decide +kernel), mem_t (i := 13) (by decide +kernel), by decide⟩
theorem c_M_upper : LkC y_M_upper b_M_upper 1 (some .long) 0 := ⟨⟨by decide, by decide, by decide +kernel⟩, mem_t (i := 959) (by decide +kernel), mem_t (i := 13) (by decide +kernel), by decide⟩
theorem c_M_lower : LkC y_M_lower b_M_lower 1 (some .long) 0 := ⟨⟨by decide, by decide, by decide +kernel⟩, mem_t (i := 963) (by decide +kernel), mem_t (i := 13) (by decide +kernel), by decide⟩
theorem c_M_row : LkC y_M_row b_M_row 4 (some .int) 2 := ⟨⟨by decide, by decide, by decide +kernel⟩, mem_t (i := 967) (by decide +kernel), mem_t (i := 13) (by decide +kernel), by decide⟩
theorem c_M_isRow : LkC y_M_isRow b_M_isRow 1 (some .boolean) 1 := ⟨⟨by decide, by decide, by decide +kernel⟩, mem_t (i := 970) (by decide +kernel), mem_t (i := 13) (by decide +kernel), by decide⟩
theorem c_M_meets : LkC y_M_meets b_M_meets 2 (some .int) 1 := ⟨⟨by decide, by decide, by decide +kernel⟩, mem_t (i := 974) (by decide +kernel), mem_t (i := 13) (by decide +kernel), by decide⟩
theorem c_M_lay : LkC y_M_lay b_M_lay 5 (some .int) 3 := ⟨⟨by decide, by decide, by decide +kernel⟩, mem_t (i := 978) (by decide +kernel), mem_t (i := 13) (by decide +kernel), by decide⟩
theorem c_M_rowAt : LkC y_M_rowAt b_M_rowAt 3 (some .int) 2 := ⟨⟨by decide, by decide, by decide +kernel⟩, mem_t (i := 982) (by decide +kernel), mem_t (i := 13) (by decide +kernel), by decide⟩
theorem c_M_tells : LkC y_M_tells b_M_tells 3 (some .int) 2 := ⟨⟨by decide, by decide, by decide +kernel⟩, mem_t (i := 986) (by decide +kernel), mem_t (i := 13) (by decide +kernel), by decide⟩
theorem c_M_at : LkC y_M_at b_M_at 3 (some .int) 2 := ⟨⟨by decide, by decide, by decide +kernel⟩, mem_t (i := 990) (by decide +kernel), mem_t (i := 13) (by decide +kernel), by decide⟩
theorem c_M_tear : LkC y_M_tear b_M_tear 2 (some .int) 1 := ⟨⟨by decide, by decide, by decide +kernel⟩, mem_t (i := 994) (by decide +kernel), mem_t (i := 13) (by decide +kernel), by decide⟩
theorem c_M_copy : LkC y_M_copy b_M_copy 7 (some .int) 5 := ⟨⟨by decide, by decide, by decide +kernel⟩, mem_t (i := 998) (by decide +kernel), mem_t (i := 13) (by decide +kernel), by decide⟩
theorem c_M_mean : LkC y_M_mean b_M_mean 5 (some .int) 1 := ⟨⟨by decide, by decide, by decide +kernel⟩, mem_t (i := 1002) (by decide +kernel), mem_t (i := 13) (by decide +kernel), by decide⟩
theorem c_M_text : LkC y_M_text b_M_text 4 (some .int) 2 := ⟨⟨by decide, by decide, by decide +kernel⟩, mem_t (i := 1006) (by decide +kernel), mem_t (i := 13) (by decide +kernel), by decide⟩
theorem c_M_isText : LkC y_M_isText b_M_isText 1 (some .boolean) 1 := ⟨⟨by decide, by decide, by decide +kernel⟩, mem_t (i := 1009) (by decide +kernel), mem_t (i := 13) (by decide +kernel), by decide⟩
theorem c_M_put : LkC y_M_put b_M_put 5 (some .int) 3 := ⟨⟨by decide, by decide, by decide +kernel⟩, mem_t (i := 1013) (by decide +kernel), mem_t (i := 13) (by decide +kernel), by decide⟩
theorem c_M_fault : LkC y_M_fault b_M_fault 2 (some .int) 1 := ⟨⟨by decide, by decide, by decide +kernel⟩, mem_t (i := 1017) (by decide +kernel), mem_t (i := 13) (by decide +kernel), by decide⟩
theorem c_M_faultOf : LkC y_M_faultOf b_M_faultOf 2 (some .int) 1 := ⟨⟨by decide, by decide, by decide +kernel⟩, mem_t (i := 1021) (by decide +kernel), mem_t (i := 13) (by decide +kernel), by decide⟩
theorem c_M_byteAt : LkC y_M_byteAt b_M_byteAt 3 (some .int) 2 := ⟨⟨by decide, by decide, by decide +kernel⟩, mem_t (i := 1025) (by decide +kernel), mem_t (i := 13) (by decide +kernel), by decide⟩
theorem c_M_readsItem : LkC y_M_readsItem b_M_readsItem 3 (some .boolean) 1 := ⟨⟨by decide, by decide, by decide +kernel⟩, mem_t (i := 1029) (by decide +kernel), mem_t (i := 13) (by decide +kernel), by decide⟩
theorem c_M_readsLaw : LkC y_M_readsLaw b_M_readsLaw 3 (some .boolean) 1 := ⟨⟨by decide, by decide, by decide +kernel⟩, mem_t (i := 1033) (by decide +kernel), mem_t (i := 13) (by decide +kernel), by decide⟩
theorem c_M_readsNumber : LkC y_M_readsNumber b_M_readsNumber 4 (some .boolean) 1 := ⟨⟨by decide, by decide, by decide +kernel⟩, mem_t (i := 1037) (by decide +kernel), mem_t (i := 13) (by decide +kernel), by decide⟩
theorem c_M_layFew : LkC y_M_layFew b_M_layFew 10 none 4 := ⟨⟨by decide, by decide, by decide +kernel⟩, mem_t (i := 1041) (by decide +kernel), mem_t (i := 13) (by decide +kernel), by decide⟩
theorem c_M_divisor : LkC y_M_divisor b_M_divisor 5 (some .int) 2 := ⟨⟨by decide, by decide, by decide +kernel⟩, mem_t (i := 1045) (by decide +kernel), mem_t (i := 13) (by decide +kernel), by decide⟩
theorem c_M_lesser : LkC y_M_lesser b_M_lesser 2 (some .int) 2 := ⟨⟨by decide, by decide, by decide +kernel⟩, mem_t (i := 1048) (by decide +kernel), mem_t (i := 13) (by decide +kernel), by decide⟩
theorem c_M_isHad : LkC y_M_isHad b_M_isHad 2 (some .boolean) 1 := ⟨⟨by decide, by decide, by decide +kernel⟩, mem_t (i := 1052) (by decide +kernel), mem_t (i := 13) (by decide +kernel), by decide⟩
theorem c_M_kindOf : LkC y_M_kindOf b_M_kindOf 1 (some .int) 1 := ⟨⟨by decide, by decide, by decide +kernel⟩, mem_t (i := 1055) (by decide +kernel), mem_t (i := 13) (by decide +kernel), by decide⟩
theorem c_M_game : LkC y_M_game b_M_game 3 (some .int) 1 := ⟨⟨by decide, by decide, by decide +kernel⟩, mem_t (i := 1059) (by decide +kernel), mem_t (i := 13) (by decide +kernel), by decide⟩
theorem c_M_law : LkC y_M_law b_M_law 1 (some .int) 0 := ⟨⟨by decide, by decide, by decide +kernel⟩, mem_t (i := 1063) (by decide +kernel), mem_t (i := 13) (by decide +kernel), by decide⟩
theorem c_M_player : LkC y_M_player b_M_player 2 (some .int) 1 := ⟨⟨by decide, by decide, by decide +kernel⟩, mem_t (i := 1067) (by decide +kernel), mem_t (i := 13) (by decide +kernel), by decide⟩
theorem c_M_isPlayer : LkC y_M_isPlayer b_M_isPlayer 2 (some .boolean) 1 := ⟨⟨by decide, by decide, by decide +kernel⟩, mem_t (i := 1071) (by decide +kernel), mem_t (i := 13) (by decide +kernel), by decide⟩
theorem c_M_say : LkC y_M_say b_M_say 2 (some .int) 1 := ⟨⟨by decide, by decide, by decide +kernel⟩, mem_t (i := 1075) (by decide +kernel), mem_t (i := 13) (by decide +kernel), by decide⟩
theorem c_M_isOver : LkC y_M_isOver b_M_isOver 1 (some .boolean) 0 := ⟨⟨by decide, by decide, by decide +kernel⟩, mem_t (i := 1079) (by decide +kernel), mem_t (i := 13) (by decide +kernel), by decide⟩
theorem c_M_saidOne : LkC y_M_saidOne b_M_saidOne 1 (some .boolean) 0 := ⟨⟨by decide, by decide, by decide +kernel⟩, mem_t (i := 1083) (by decide +kernel), mem_t (i := 13) (by decide +kernel), by decide⟩
theorem c_M_leftNow : LkC y_M_leftNow b_M_leftNow 1 (some .int) 0 := ⟨⟨by decide, by decide, by decide +kernel⟩, mem_t (i := 1087) (by decide +kernel), mem_t (i := 13) (by decide +kernel), by decide⟩
theorem c_M_leftOf : LkC y_M_leftOf b_M_leftOf 6 (some .int) 3 := ⟨⟨by decide, by decide, by decide +kernel⟩, mem_t (i := 1091) (by decide +kernel), mem_t (i := 13) (by decide +kernel), by decide⟩
theorem c_M_maySay : LkC y_M_maySay b_M_maySay 2 (some .boolean) 1 := ⟨⟨by decide, by decide, by decide +kernel⟩, mem_t (i := 1095) (by decide +kernel), mem_t (i := 13) (by decide +kernel), by decide⟩
theorem c_M_may : LkC y_M_may b_M_may 2 (some .int) 1 := ⟨⟨by decide, by decide, by decide +kernel⟩, mem_t (i := 1099) (by decide +kernel), mem_t (i := 13) (by decide +kernel), by decide⟩
theorem c_M_said : LkC y_M_said b_M_said 2 (some .int) 1 := ⟨⟨by decide, by decide, by decide +kernel⟩, mem_t (i := 1103) (by decide +kernel), mem_t (i := 13) (by decide +kernel), by decide⟩
theorem c_M_undo : LkC y_M_undo b_M_undo 3 (some .int) 1 := ⟨⟨by decide, by decide, by decide +kernel⟩, mem_t (i := 1107) (by decide +kernel), mem_t (i := 13) (by decide +kernel), by decide⟩
theorem c_M_turn : LkC y_M_turn b_M_turn 2 (some .int) 0 := ⟨⟨by decide, by decide, by decide +kernel⟩, mem_t (i := 1111) (by decide +kernel), mem_t (i := 13) (by decide +kernel), by decide⟩
theorem c_M_keep : LkC y_M_keep b_M_keep 3 (some .int) 1 := ⟨⟨by decide, by decide, by decide +kernel⟩, mem_t (i := 1115) (by decide +kernel), mem_t (i := 13) (by decide +kernel), by decide⟩
theorem c_M_on : LkC y_M_on b_M_on 3 (some .int) 1 := ⟨⟨by decide, by decide, by decide +kernel⟩, mem_t (i := 1119) (by decide +kernel), mem_t (i := 13) (by decide +kernel), by decide⟩
theorem c_M_had : LkC y_M_had b_M_had 2 (some .int) 1 := ⟨⟨by decide, by decide, by decide +kernel⟩, mem_t (i := 1123) (by decide +kernel), mem_t (i := 13) (by decide +kernel), by decide⟩
theorem c_M_ways : LkC y_M_ways b_M_ways 4 (some .int) 1 := ⟨⟨by decide, by decide, by decide +kernel⟩, mem_t (i := 1127) (by decide +kernel), mem_t (i := 13) (by decide +kernel), by decide⟩
theorem c_M_whole : LkC y_M_whole b_M_whole 4 (some .int) 2 := ⟨⟨by decide, by decide, by decide +kernel⟩, mem_t (i := 1131) (by decide +kernel), mem_t (i := 13) (by decide +kernel), by decide⟩
theorem c_M_byJust : LkC y_M_byJust b_M_byJust 7 (some .int) 2 := ⟨⟨by decide, by decide, by decide +kernel⟩, mem_t (i := 1135) (by decide +kernel), mem_t (i := 13) (by decide +kernel), by decide⟩
theorem c_M_gaps : LkC y_M_gaps b_M_gaps 5 (some .int) 1 := ⟨⟨by decide, by decide, by decide +kernel⟩, mem_t (i := 1139) (by decide +kernel), mem_t (i := 13) (by decide +kernel), by decide⟩
theorem c_M_isEndless : LkC y_M_isEndless b_M_isEndless 1 (some .boolean) 0 := ⟨⟨by decide, by decide, by decide +kernel⟩, mem_t (i := 1143) (by decide +kernel), mem_t (i := 13) (by decide +kernel), by decide⟩
theorem c_M_commonOf : LkC y_M_commonOf b_M_commonOf 5 (some .int) 2 := ⟨⟨by decide, by decide, by decide +kernel⟩, mem_t (i := 1147) (by decide +kernel), mem_t (i := 13) (by decide +kernel), by decide⟩
theorem c_M_layGaps : LkC y_M_layGaps b_M_layGaps 3 (some .int) 0 := ⟨⟨by decide, by decide, by decide +kernel⟩, mem_t (i := 1151) (by decide +kernel), mem_t (i := 13) (by decide +kernel), by decide⟩
theorem c_M_greatest : LkC y_M_greatest b_M_greatest 2 (some .int) 0 := ⟨⟨by decide, by decide, by decide +kernel⟩, mem_t (i := 1155) (by decide +kernel), mem_t (i := 13) (by decide +kernel), by decide⟩
theorem c_M_rest : LkC y_M_rest b_M_rest 4 (some .int) 2 := ⟨⟨by decide, by decide, by decide +kernel⟩, mem_t (i := 1159) (by decide +kernel), mem_t (i := 13) (by decide +kernel), by decide⟩
theorem c_M_needed : LkC y_M_needed b_M_needed 4 (some .int) 0 := ⟨⟨by decide, by decide, by decide +kernel⟩, mem_t (i := 1163) (by decide +kernel), mem_t (i := 13) (by decide +kernel), by decide⟩
theorem c_M_bits : LkC y_M_bits b_M_bits 3 (some .int) 1 := ⟨⟨by decide, by decide, by decide +kernel⟩, mem_t (i := 1166) (by decide +kernel), mem_t (i := 13) (by decide +kernel), by decide⟩
theorem c_M_common : LkC y_M_common b_M_common 1 (some .int) 0 := ⟨⟨by decide, by decide, by decide +kernel⟩, mem_t (i := 1170) (by decide +kernel), mem_t (i := 13) (by decide +kernel), by decide⟩
theorem c_M_from : LkC y_M_from b_M_from 1 (some .int) 0 := ⟨⟨by decide, by decide, by decide +kernel⟩, mem_t (i := 1174) (by decide +kernel), mem_t (i := 13) (by decide +kernel), by decide⟩
theorem c_M_wish : LkC y_M_wish b_M_wish 5 (some .int) 1 := ⟨⟨by decide, by decide, by decide +kernel⟩, mem_t (i := 1178) (by decide +kernel), mem_t (i := 13) (by decide +kernel), by decide⟩
theorem c_M_areAll : LkC y_M_areAll b_M_areAll 6 (some .boolean) 3 := ⟨⟨by decide, by decide, by decide +kernel⟩, mem_t (i := 1182) (by decide +kernel), mem_t (i := 13) (by decide +kernel), by decide⟩
theorem c_M_layOthers : LkC y_M_layOthers b_M_layOthers 2 none 0 := ⟨⟨by decide, by decide, by decide +kernel⟩, mem_t (i := 1186) (by decide +kernel), mem_t (i := 13) (by decide +kernel), by decide⟩
theorem c_M_whose : LkC y_M_whose b_M_whose 2 (some .int) 0 := ⟨⟨by decide, by decide, by decide +kernel⟩, mem_t (i := 1190) (by decide +kernel), mem_t (i := 13) (by decide +kernel), by decide⟩
theorem c_M_needSolved : LkC y_M_needSolved b_M_needSolved 1 (some .int) 0 := ⟨⟨by decide, by decide, by decide +kernel⟩, mem_t (i := 1194) (by decide +kernel), mem_t (i := 13) (by decide +kernel), by decide⟩
theorem c_M_isSolved : LkC y_M_isSolved b_M_isSolved 1 (some .boolean) 0 := ⟨⟨by decide, by decide, by decide +kernel⟩, mem_t (i := 1198) (by decide +kernel), mem_t (i := 13) (by decide +kernel), by decide⟩
theorem c_M_layWins : LkC y_M_layWins b_M_layWins 5 none 0 := ⟨⟨by decide, by decide, by decide +kernel⟩, mem_t (i := 1202) (by decide +kernel), mem_t (i := 13) (by decide +kernel), by decide⟩
theorem c_M_has : LkC y_M_has b_M_has 2 (some .boolean) 2 := ⟨⟨by decide, by decide, by decide +kernel⟩, mem_t (i := 1205) (by decide +kernel), mem_t (i := 13) (by decide +kernel), by decide⟩
theorem c_M_behind : LkC y_M_behind b_M_behind 7 (some .int) 2 := ⟨⟨by decide, by decide, by decide +kernel⟩, mem_t (i := 1209) (by decide +kernel), mem_t (i := 13) (by decide +kernel), by decide⟩
theorem c_M_greater : LkC y_M_greater b_M_greater 2 (some .int) 2 := ⟨⟨by decide, by decide, by decide +kernel⟩, mem_t (i := 1212) (by decide +kernel), mem_t (i := 13) (by decide +kernel), by decide⟩
theorem c_M_winMany : LkC y_M_winMany b_M_winMany 3 (some .int) 0 := ⟨⟨by decide, by decide, by decide +kernel⟩, mem_t (i := 1216) (by decide +kernel), mem_t (i := 13) (by decide +kernel), by decide⟩
theorem c_M_isWinning : LkC y_M_isWinning b_M_isWinning 2 (some .boolean) 1 := ⟨⟨by decide, by decide, by decide +kernel⟩, mem_t (i := 1220) (by decide +kernel), mem_t (i := 13) (by decide +kernel), by decide⟩
theorem c_M_allGaps : LkC y_M_allGaps b_M_allGaps 1 (some .int) 0 := ⟨⟨by decide, by decide, by decide +kernel⟩, mem_t (i := 1224) (by decide +kernel), mem_t (i := 13) (by decide +kernel), by decide⟩
theorem c_M_best : LkC y_M_best b_M_best 5 (some .int) 1 := ⟨⟨by decide, by decide, by decide +kernel⟩, mem_t (i := 1228) (by decide +kernel), mem_t (i := 13) (by decide +kernel), by decide⟩
theorem c_M_lasts : LkC y_M_lasts b_M_lasts 2 (some .int) 0 := ⟨⟨by decide, by decide, by decide +kernel⟩, mem_t (i := 1232) (by decide +kernel), mem_t (i := 13) (by decide +kernel), by decide⟩
theorem c_M_share : LkC y_M_share b_M_share 3 (some .int) 0 := ⟨⟨by decide, by decide, by decide +kernel⟩, mem_t (i := 1236) (by decide +kernel), mem_t (i := 13) (by decide +kernel), by decide⟩
theorem c_M_fraction : LkC y_M_fraction b_M_fraction 5 (some .int) 3 := ⟨⟨by decide, by decide, by decide +kernel⟩, mem_t (i := 1240) (by decide +kernel), mem_t (i := 13) (by decide +kernel), by decide⟩
theorem c_M_says : LkC y_M_says b_M_says 2 (some .int) 1 := ⟨⟨by decide, by decide, by decide +kernel⟩, mem_t (i := 1244) (by decide +kernel), mem_t (i := 13) (by decide +kernel), by decide⟩
theorem c_M_saysOf : LkC y_M_saysOf b_M_saysOf 3 (some .int) 2 := ⟨⟨by decide, by decide, by decide +kernel⟩, mem_t (i := 1248) (by decide +kernel), mem_t (i := 13) (by decide +kernel), by decide⟩
theorem c_M_byLeft : LkC y_M_byLeft b_M_byLeft 6 (some .int) 1 := ⟨⟨by decide, by decide, by decide +kernel⟩, mem_t (i := 1252) (by decide +kernel), mem_t (i := 13) (by decide +kernel), by decide⟩
theorem c_M_pairOf : LkC y_M_pairOf b_M_pairOf 2 (some .int) 0 := ⟨⟨by decide, by decide, by decide +kernel⟩, mem_t (i := 1256) (by decide +kernel), mem_t (i := 13) (by decide +kernel), by decide⟩
theorem c_M_greatestLeft : LkC y_M_greatestLeft b_M_greatestLeft 2 (some .int) 0 := ⟨⟨by decide, by decide, by decide +kernel⟩, mem_t (i := 1260) (by decide +kernel), mem_t (i := 13) (by decide +kernel), by decide⟩
theorem c_M_leastAbove : LkC y_M_leastAbove b_M_leastAbove 2 (some .int) 0 := ⟨⟨by decide, by decide, by decide +kernel⟩, mem_t (i := 1264) (by decide +kernel), mem_t (i := 13) (by decide +kernel), by decide⟩
theorem c_M_bestOf : LkC y_M_bestOf b_M_bestOf 2 (some .int) 0 := ⟨⟨by decide, by decide, by decide +kernel⟩, mem_t (i := 1268) (by decide +kernel), mem_t (i := 13) (by decide +kernel), by decide⟩
theorem c_M_chanceOf : LkC y_M_chanceOf b_M_chanceOf 4 (some .int) 0 := ⟨⟨by decide, by decide, by decide +kernel⟩, mem_t (i := 1272) (by decide +kernel), mem_t (i := 13) (by decide +kernel), by decide⟩
theorem c_M_aboveMany : LkC y_M_aboveMany b_M_aboveMany 3 (some .int) 0 := ⟨⟨by decide, by decide, by decide +kernel⟩, mem_t (i := 1278) (by decide +kernel), mem_t (i := 13) (by decide +kernel), by decide⟩
theorem c_M_mark : LkC y_M_mark b_M_mark 5 (some .int) 2 := ⟨⟨by decide, by decide, by decide +kernel⟩, mem_t (i := 1282) (by decide +kernel), mem_t (i := 13) (by decide +kernel), by decide⟩
theorem c_M_leftBehind : LkC y_M_leftBehind b_M_leftBehind 2 (some .int) 1 := ⟨⟨by decide, by decide, by decide +kernel⟩, mem_t (i := 1286) (by decide +kernel), mem_t (i := 13) (by decide +kernel), by decide⟩
theorem c_M_play : LkC y_M_play b_M_play 5 (some .int) 2 := ⟨⟨by decide, by decide, by decide +kernel⟩, mem_t (i := 1290) (by decide +kernel), mem_t (i := 13) (by decide +kernel), by decide⟩
theorem c_M_list : LkC y_M_list b_M_list 4 (some .int) 1 := ⟨⟨by decide, by decide, by decide +kernel⟩, mem_t (i := 1295) (by decide +kernel), mem_t (i := 13) (by decide +kernel), by decide⟩
theorem c_M_needList : LkC y_M_needList b_M_needList 5 (some .int) 1 := ⟨⟨by decide, by decide, by decide +kernel⟩, mem_t (i := 1299) (by decide +kernel), mem_t (i := 13) (by decide +kernel), by decide⟩
theorem c_M_wrongSum : LkC y_M_wrongSum b_M_wrongSum 3 (some .int) 0 := ⟨⟨by decide, by decide, by decide +kernel⟩, mem_t (i := 1303) (by decide +kernel), mem_t (i := 13) (by decide +kernel), by decide⟩
theorem c_M_makes : LkC y_M_makes b_M_makes 6 (some .int) 2 := ⟨⟨by decide, by decide, by decide +kernel⟩, mem_t (i := 1307) (by decide +kernel), mem_t (i := 13) (by decide +kernel), by decide⟩
theorem c_M_isMaker : LkC y_M_isMaker b_M_isMaker 4 (some .boolean) 1 := ⟨⟨by decide, by decide, by decide +kernel⟩, mem_t (i := 1311) (by decide +kernel), mem_t (i := 13) (by decide +kernel), by decide⟩
theorem c_M_tree : LkC y_M_tree b_M_tree 8 (some .int) 2 := ⟨⟨by decide, by decide, by decide +kernel⟩, mem_t (i := 1315) (by decide +kernel), mem_t (i := 13) (by decide +kernel), by decide⟩
theorem c_M_topOf : LkC y_M_topOf b_M_topOf 3 (some .int) 1 := ⟨⟨by decide, by decide, by decide +kernel⟩, mem_t (i := 1318) (by decide +kernel), mem_t (i := 13) (by decide +kernel), by decide⟩
theorem c_M_makesIt : LkC y_M_makesIt b_M_makesIt 4 (some .boolean) 2 := ⟨⟨by decide, by decide, by decide +kernel⟩, mem_t (i := 1321) (by decide +kernel), mem_t (i := 13) (by decide +kernel), by decide⟩
theorem c_M_count : LkC y_M_count b_M_count 2 (some .int) 1 := ⟨⟨by decide, by decide, by decide +kernel⟩, mem_t (i := 1325) (by decide +kernel), mem_t (i := 13) (by decide +kernel), by decide⟩
theorem c_M_counted : LkC y_M_counted b_M_counted 4 (some .int) 1 := ⟨⟨by decide, by decide, by decide +kernel⟩, mem_t (i := 1329) (by decide +kernel), mem_t (i := 13) (by decide +kernel), by decide⟩
theorem c_M_digest : LkC y_M_digest b_M_digest 3 (some .long) 0 := ⟨⟨by decide, by decide, by decide +kernel⟩, mem_t (i := 1333) (by decide +kernel), mem_t (i := 13) (by decide +kernel), by decide⟩
theorem c_M_mix : LkC y_M_mix b_M_mix 3 none 1 := ⟨⟨by decide, by decide, by decide +kernel⟩, mem_t (i := 1338) (by decide +kernel), mem_t (i := 13) (by decide +kernel), by decide⟩
theorem c_M_mixGame : LkC y_M_mixGame b_M_mixGame 3 none 0 := ⟨⟨by decide, by decide, by decide +kernel⟩, mem_t (i := 1343) (by decide +kernel), mem_t (i := 13) (by decide +kernel), by decide⟩
theorem l_L_9 : Cond.methodLink "WhoSaysOneLaw" 9 y_X_init ∈ lw_tbl ∧ Cond.instanceMethod y_X_init ∈ lw_tbl := ⟨mem_t (i := 21) (by decide +kernel), mem_t (i := 22) (by decide +kernel)⟩
theorem l_X_1 : Cond.methodLink "WhoSaysOne" 1 objectInit ∈ lw_tbl := mem_t (i := 24) (by decide +kernel)
theorem l_Gm_3 : Cond.methodLink "WhoSaysOne$Game" 3 objectInit ∈ lw_tbl := mem_t (i := 34) (by decide +kernel)
theorem l_Pl_1 : Cond.methodLink "WhoSaysOne$Player" 1 objectInit ∈ lw_tbl := mem_t (i := 64) (by decide +kernel)
theorem l_Rd_3 : Cond.methodLink "WhoSaysOne$Reader" 3 objectInit ∈ lw_tbl := mem_t (i := 107) (by decide +kernel)
theorem l_Su_3 : Cond.methodLink "WhoSaysOne$Sums" 3 objectInit ∈ lw_tbl := mem_t (i := 131) (by decide +kernel)
theorem l_So_3 : Cond.methodLink "WhoSaysOne$Solver" 3 objectInit ∈ lw_tbl := mem_t (i := 159) (by decide +kernel)
theorem l_Rw_3 : Cond.methodLink "WhoSaysOne$Row" 3 objectInit ∈ lw_tbl := mem_t (i := 177) (by decide +kernel)
theorem l_L_13 : LkV "WhoSaysOneLaw" 13 y_X_row := ⟨mem_t (i := 238) (by decide +kernel), mem_t (i := 239) (by decide +kernel), mem_t (i := 240) (by decide +kernel)⟩
theorem l_X_88 : LkV "WhoSaysOne" 88 y_X_begin := ⟨mem_t (i := 242) (by decide +kernel), mem_t (i := 244) (by decide +kernel), mem_p (i := 0) (by decide +kernel)⟩
theorem l_X_110 : LkS "WhoSaysOne" 110 y_X_isIn := ⟨mem_t (i := 246) (by decide +kernel), mem_t (i := 247) (by decide +kernel)⟩
theorem l_X_114 : LkV "WhoSaysOne" 114 y_X_found := ⟨mem_t (i := 249) (by decide +kernel), mem_t (i := 251) (by decide +kernel), mem_p (i := 1) (by decide +kernel)⟩
theorem l_X_238 : LkV "WhoSaysOne" 238 y_Rw_begin := ⟨mem_t (i := 253) (by decide +kernel), mem_t (i := 254) (by decide +kernel), mem_t (i := 255) (by decide +kernel)⟩
theorem l_Rw_19 : LkS "WhoSaysOne$Row" 19 y_Ar_fillI := ⟨mem_t (i := 257) (by decide +kernel), mem_t (i := 258) (by decide +kernel)⟩
theorem l_L_18 : LkV "WhoSaysOneLaw" 18 y_X_lay := ⟨mem_t (i := 260) (by decide +kernel), mem_t (i := 261) (by decide +kernel), mem_t (i := 262) (by decide +kernel)⟩
theorem l_X_92 : LkV "WhoSaysOne" 92 y_X_refusedPlace := ⟨mem_t (i := 264) (by decide +kernel), mem_t (i := 266) (by decide +kernel), mem_p (i := 2) (by decide +kernel)⟩
theorem l_X_103 : LkV "WhoSaysOne" 103 y_X_refusedRow := ⟨mem_t (i := 268) (by decide +kernel), mem_t (i := 270) (by decide +kernel), mem_p (i := 3) (by decide +kernel)⟩
theorem l_X_118 : LkV "WhoSaysOne" 118 y_Rw_isThere := ⟨mem_t (i := 272) (by decide +kernel), mem_t (i := 273) (by decide +kernel), mem_t (i := 274) (by decide +kernel)⟩
theorem l_L_23 : LkV "WhoSaysOneLaw" 23 y_X_at := ⟨mem_t (i := 276) (by decide +kernel), mem_t (i := 277) (by decide +kernel), mem_t (i := 278) (by decide +kernel)⟩
theorem l_L_27 : LkV "WhoSaysOneLaw" 27 y_X_tear := ⟨mem_t (i := 280) (by decide +kernel), mem_t (i := 281) (by decide +kernel), mem_t (i := 282) (by decide +kernel)⟩
theorem l_L_32 : LkV "WhoSaysOneLaw" 32 y_X_copy := ⟨mem_t (i := 284) (by decide +kernel), mem_t (i := 285) (by decide +kernel), mem_t (i := 286) (by decide +kernel)⟩
theorem l_X_122 : LkV "WhoSaysOne" 122 y_Rw_holdsRun := ⟨mem_t (i := 288) (by decide +kernel), mem_t (i := 289) (by decide +kernel), mem_t (i := 290) (by decide +kernel)⟩
theorem l_X_125 : Cond.methodLink "WhoSaysOne" 125 arraycopyName ∈ lw_tbl := mem_t (i := 292) (by decide +kernel)
theorem l_L_37 : LkV "WhoSaysOneLaw" 37 y_X_mean := ⟨mem_t (i := 295) (by decide +kernel), mem_t (i := 296) (by decide +kernel), mem_t (i := 297) (by decide +kernel)⟩
theorem l_L_41 : LkV "WhoSaysOneLaw" 41 y_X_text := ⟨mem_t (i := 299) (by decide +kernel), mem_t (i := 300) (by decide +kernel), mem_t (i := 301) (by decide +kernel)⟩
theorem l_L_45 : LkV "WhoSaysOneLaw" 45 y_X_put := ⟨mem_t (i := 303) (by decide +kernel), mem_t (i := 304) (by decide +kernel), mem_t (i := 305) (by decide +kernel)⟩
theorem l_L_49 : LkV "WhoSaysOneLaw" 49 y_X_fault := ⟨mem_t (i := 307) (by decide +kernel), mem_t (i := 308) (by decide +kernel), mem_t (i := 309) (by decide +kernel)⟩
theorem l_X_131 : LkV "WhoSaysOne" 131 y_Rd_faultOf := ⟨mem_t (i := 311) (by decide +kernel), mem_t (i := 312) (by decide +kernel), mem_t (i := 313) (by decide +kernel)⟩
theorem l_Rd_22 : LkV "WhoSaysOne$Reader" 22 y_Gm_begin := ⟨mem_t (i := 315) (by decide +kernel), mem_t (i := 316) (by decide +kernel), mem_t (i := 317) (by decide +kernel)⟩
theorem l_Rd_41 : LkV "WhoSaysOne$Reader" 41 y_Rd_takesItem := ⟨mem_t (i := 319) (by decide +kernel), mem_t (i := 321) (by decide +kernel), mem_p (i := 4) (by decide +kernel)⟩
theorem l_Rd_45 : LkV "WhoSaysOne$Reader" 45 y_Rd_takesLaw := ⟨mem_t (i := 323) (by decide +kernel), mem_t (i := 325) (by decide +kernel), mem_p (i := 5) (by decide +kernel)⟩
theorem l_Rd_56 : LkV "WhoSaysOne$Reader" 56 y_Rd_figureHere := ⟨mem_t (i := 327) (by decide +kernel), mem_t (i := 329) (by decide +kernel), mem_p (i := 6) (by decide +kernel)⟩
theorem l_Rd_49 : LkV "WhoSaysOne$Reader" 49 y_Rd_takesNumber := ⟨mem_t (i := 332) (by decide +kernel), mem_t (i := 334) (by decide +kernel), mem_p (i := 7) (by decide +kernel)⟩
theorem l_Rd_65 : LkV "WhoSaysOne$Reader" 65 y_Gm_isOpen := ⟨mem_t (i := 336) (by decide +kernel), mem_t (i := 337) (by decide +kernel), mem_t (i := 338) (by decide +kernel)⟩
theorem l_Gm_51 : LkV "WhoSaysOne$Game" 51 y_Gm_open := ⟨mem_t (i := 340) (by decide +kernel), mem_t (i := 341) (by decide +kernel), mem_t (i := 342) (by decide +kernel)⟩
theorem l_Rd_68 : LkV "WhoSaysOne$Reader" 68 y_Gm_add := ⟨mem_t (i := 346) (by decide +kernel), mem_t (i := 347) (by decide +kernel), mem_t (i := 348) (by decide +kernel)⟩
theorem l_Gm_30 : LkV "WhoSaysOne$Game" 30 y_Gm_reachedWith := ⟨mem_t (i := 351) (by decide +kernel), mem_t (i := 353) (by decide +kernel), mem_p (i := 8) (by decide +kernel)⟩
theorem l_Gm_82 : LkS "WhoSaysOne$Game" 82 y_Gm_widened := ⟨mem_t (i := 355) (by decide +kernel), mem_t (i := 356) (by decide +kernel)⟩
theorem l_Rd_52 : LkV "WhoSaysOne$Reader" 52 y_Rd_takesPlayer := ⟨mem_t (i := 365) (by decide +kernel), mem_t (i := 367) (by decide +kernel), mem_p (i := 9) (by decide +kernel)⟩
theorem l_L_53 : LkV "WhoSaysOneLaw" 53 y_X_game := ⟨mem_t (i := 369) (by decide +kernel), mem_t (i := 370) (by decide +kernel), mem_t (i := 371) (by decide +kernel)⟩
theorem l_X_138 : LkV "WhoSaysOne" 138 y_Gm_become := ⟨mem_t (i := 373) (by decide +kernel), mem_t (i := 374) (by decide +kernel), mem_t (i := 375) (by decide +kernel)⟩
theorem l_Gm_37 : Cond.methodLink "WhoSaysOne$Game" 37 arraycopyName ∈ lw_tbl := mem_t (i := 377) (by decide +kernel)
theorem l_L_57 : LkV "WhoSaysOneLaw" 57 y_X_law := ⟨mem_t (i := 378) (by decide +kernel), mem_t (i := 379) (by decide +kernel), mem_t (i := 380) (by decide +kernel)⟩
theorem l_L_62 : LkV "WhoSaysOneLaw" 62 y_X_player := ⟨mem_t (i := 382) (by decide +kernel), mem_t (i := 383) (by decide +kernel), mem_t (i := 384) (by decide +kernel)⟩
theorem l_L_66 : LkV "WhoSaysOneLaw" 66 y_X_mark := ⟨mem_t (i := 386) (by decide +kernel), mem_t (i := 387) (by decide +kernel), mem_t (i := 388) (by decide +kernel)⟩
theorem l_X_151 : LkV "WhoSaysOne" 151 y_X_playerAt := ⟨mem_t (i := 390) (by decide +kernel), mem_t (i := 392) (by decide +kernel), mem_p (i := 10) (by decide +kernel)⟩
theorem l_X_155 : LkS "WhoSaysOne" 155 y_X_isOf := ⟨mem_t (i := 394) (by decide +kernel), mem_t (i := 395) (by decide +kernel)⟩
theorem l_X_159 : LkV "WhoSaysOne" 159 y_Gm_isOver := ⟨mem_t (i := 397) (by decide +kernel), mem_t (i := 398) (by decide +kernel), mem_t (i := 399) (by decide +kernel)⟩
theorem l_Gm_72 : LkV "WhoSaysOne$Game" 72 y_Gm_last := ⟨mem_t (i := 401) (by decide +kernel), mem_t (i := 402) (by decide +kernel), mem_t (i := 403) (by decide +kernel)⟩
theorem l_X_162 : LkV "WhoSaysOne" 162 y_Pl_choice := ⟨mem_t (i := 405) (by decide +kernel), mem_t (i := 406) (by decide +kernel), mem_t (i := 407) (by decide +kernel)⟩
theorem l_X_162_Bs : LkO "WhoSaysOne" 162 y_Pl_choice "WhoSaysOne$Best" y_Bs_choice 3 := ⟨⟨by decide, by decide, by decide +kernel⟩, mem_t (i := 405) (by decide +kernel), mem_t (i := 408) (by decide +kernel), mem_t (i := 406) (by decide +kernel), mem_t (i := 409) (by decide +kernel), mem_t (i := 410) (by decide +kernel), _, _, _, mem_t (i := 500) (w := .code y_Pl_choice b_Pl_choice 4 (some .int)) (by decide +kernel)⟩
theorem l_X_162_Ch : LkO "WhoSaysOne" 162 y_Pl_choice "WhoSaysOne$Chance" y_Ch_choice 3 := ⟨⟨by decide, by decide, by decide +kernel⟩, mem_t (i := 405) (by decide +kernel), mem_t (i := 408) (by decide +kernel), mem_t (i := 406) (by decide +kernel), mem_t (i := 463) (by decide +kernel), mem_t (i := 464) (by decide +kernel), _, _, _, mem_t (i := 500) (w := .code y_Pl_choice b_Pl_choice 4 (some .int)) (by decide +kernel)⟩
theorem l_X_162_Lo : LkO "WhoSaysOne" 162 y_Pl_choice "WhoSaysOne$Longer" y_Sm_choice 3 := ⟨⟨by decide, by decide, by decide +kernel⟩, mem_t (i := 405) (by decide +kernel), mem_t (i := 408) (by decide +kernel), mem_t (i := 406) (by decide +kernel), mem_t (i := 481) (by decide +kernel), mem_t (i := 482) (by decide +kernel), _, _, _, mem_t (i := 500) (w := .code y_Pl_choice b_Pl_choice 4 (some .int)) (by decide +kernel)⟩
theorem l_X_162_Pr : LkO "WhoSaysOne" 162 y_Pl_choice "WhoSaysOne$Pair" y_Pr_choice 3 := ⟨⟨by decide, by decide, by decide +kernel⟩, mem_t (i := 405) (by decide +kernel), mem_t (i := 408) (by decide +kernel), mem_t (i := 406) (by decide +kernel), mem_t (i := 498) (by decide +kernel), mem_t (i := 467) (by decide +kernel), _, _, _, mem_t (i := 500) (w := .code y_Pl_choice b_Pl_choice 4 (some .int)) (by decide +kernel)⟩
theorem l_X_162_Sm : LkO "WhoSaysOne" 162 y_Pl_choice "WhoSaysOne$Small" y_Sm_choice 3 := ⟨⟨by decide, by decide, by decide +kernel⟩, mem_t (i := 405) (by decide +kernel), mem_t (i := 408) (by decide +kernel), mem_t (i := 406) (by decide +kernel), mem_t (i := 499) (by decide +kernel), mem_t (i := 482) (by decide +kernel), _, _, _, mem_t (i := 500) (w := .code y_Pl_choice b_Pl_choice 4 (some .int)) (by decide +kernel)⟩
theorem l_Bs_7 : LkV "WhoSaysOne$Best" 7 y_So_load := ⟨mem_t (i := 412) (by decide +kernel), mem_t (i := 413) (by decide +kernel), mem_t (i := 414) (by decide +kernel)⟩
theorem l_So_18 : LkV "WhoSaysOne$Solver" 18 y_Gm_open := ⟨mem_t (i := 416) (by decide +kernel), mem_t (i := 341) (by decide +kernel), mem_t (i := 342) (by decide +kernel)⟩
theorem l_So_28 : LkS "WhoSaysOne$Solver" 28 y_Lg_bitCount := ⟨mem_t (i := 417) (by decide +kernel), mem_t (i := 418) (by decide +kernel)⟩
theorem l_So_40 : LkS "WhoSaysOne$Solver" 40 y_Ar_fillI := ⟨mem_t (i := 423) (by decide +kernel), mem_t (i := 258) (by decide +kernel)⟩
theorem l_Bs_13 : LkV "WhoSaysOne$Best" 13 y_So_leastWin := ⟨mem_t (i := 424) (by decide +kernel), mem_t (i := 425) (by decide +kernel), mem_t (i := 426) (by decide +kernel)⟩
theorem l_So_63 : LkV "WhoSaysOne$Solver" 63 y_So_winsBy := ⟨mem_t (i := 428) (by decide +kernel), mem_t (i := 429) (by decide +kernel), mem_t (i := 430) (by decide +kernel)⟩
theorem l_So_51 : LkS "WhoSaysOne$Solver" 51 y_So_gapsBehind := ⟨mem_t (i := 432) (by decide +kernel), mem_t (i := 433) (by decide +kernel)⟩
theorem l_So_55 : LkS "WhoSaysOne$Solver" 55 y_So_solved := ⟨mem_t (i := 436) (by decide +kernel), mem_t (i := 437) (by decide +kernel)⟩
theorem l_So_67 : LkV "WhoSaysOne$Solver" 67 y_So_slotOf := ⟨mem_t (i := 439) (by decide +kernel), mem_t (i := 441) (by decide +kernel), mem_p (i := 11) (by decide +kernel)⟩
theorem l_So_70 : LkS "WhoSaysOne$Solver" 70 y_Ma_min := ⟨mem_t (i := 444) (by decide +kernel), mem_t (i := 445) (by decide +kernel)⟩
theorem l_So_59 : LkS "WhoSaysOne$Solver" 59 y_So_isWin := ⟨mem_t (i := 447) (by decide +kernel), mem_t (i := 448) (by decide +kernel)⟩
theorem l_So_75 : LkV "WhoSaysOne$Solver" 75 y_So_remember := ⟨mem_t (i := 450) (by decide +kernel), mem_t (i := 452) (by decide +kernel), mem_p (i := 12) (by decide +kernel)⟩
theorem l_Bs_17 : LkV "WhoSaysOne$Best" 17 y_Gm_leastAboveOne := ⟨mem_t (i := 454) (by decide +kernel), mem_t (i := 455) (by decide +kernel), mem_t (i := 456) (by decide +kernel)⟩
theorem l_Gm_63 : LkV "WhoSaysOne$Game" 63 y_Gm_openAboveOne := ⟨mem_t (i := 458) (by decide +kernel), mem_t (i := 459) (by decide +kernel), mem_t (i := 460) (by decide +kernel)⟩
theorem l_Ch_7_up : Cond.methodLink "WhoSaysOne$Chance" 7 y_Pr_choice ∈ lw_tbl ∧ Cond.sameMethod y_Pr_choice.cls y_Pr_choice.cls y_Pr_choice.name y_Pr_choice.desc ∈ lw_tbl ∧ Cond.superclass "WhoSaysOne$Chance" y_Pr_choice.cls ∈ lw_tbl ∧ Cond.instanceMethod y_Pr_choice ∈ lw_tbl := ⟨mem_t (i := 466) (by decide +kernel), mem_t (i := 1345) (by decide +kernel), mem_t (i := 101) (by decide +kernel), mem_t (i := 467) (by decide +kernel)⟩
theorem l_Pr_7 : LkV "WhoSaysOne$Pair" 7 y_Gm_pairNumber := ⟨mem_t (i := 469) (by decide +kernel), mem_t (i := 470) (by decide +kernel), mem_t (i := 471) (by decide +kernel)⟩
theorem l_Pr_13 : LkV "WhoSaysOne$Pair" 13 y_Gm_isOpen := ⟨mem_t (i := 476) (by decide +kernel), mem_t (i := 337) (by decide +kernel), mem_t (i := 338) (by decide +kernel)⟩
theorem l_Pr_17 : LkV "WhoSaysOne$Pair" 17 y_Gm_leastAboveOne := ⟨mem_t (i := 477) (by decide +kernel), mem_t (i := 455) (by decide +kernel), mem_t (i := 456) (by decide +kernel)⟩
theorem l_Ch_11 : LkV "WhoSaysOne$Chance" 11 y_Gm_openAboveOne := ⟨mem_t (i := 478) (by decide +kernel), mem_t (i := 459) (by decide +kernel), mem_t (i := 460) (by decide +kernel)⟩
theorem l_Ch_17 : LkS "WhoSaysOne$Chance" 17 y_Lg_bitCount := ⟨mem_t (i := 479) (by decide +kernel), mem_t (i := 418) (by decide +kernel)⟩
theorem l_Sm_9 : LkV "WhoSaysOne$Small" 9 y_Gm_isOpen := ⟨mem_t (i := 484) (by decide +kernel), mem_t (i := 337) (by decide +kernel), mem_t (i := 338) (by decide +kernel)⟩
theorem l_Sm_15 : LkV "WhoSaysOne$Small" 15 y_Gm_openBehind := ⟨mem_t (i := 485) (by decide +kernel), mem_t (i := 486) (by decide +kernel), mem_t (i := 487) (by decide +kernel)⟩
theorem l_Gm_57 : LkS "WhoSaysOne$Game" 57 y_Lg_bitCount := ⟨mem_t (i := 489) (by decide +kernel), mem_t (i := 418) (by decide +kernel)⟩
theorem l_Sm_19 : LkV "WhoSaysOne$Small" 19 y_Sm_isBetter := ⟨mem_t (i := 490) (by decide +kernel), mem_t (i := 491) (by decide +kernel), mem_t (i := 492) (by decide +kernel)⟩
theorem l_Sm_19_Lo : LkO "WhoSaysOne$Small" 19 y_Sm_isBetter "WhoSaysOne$Longer" y_Lo_isBetter 2 := ⟨⟨by decide, by decide, by decide +kernel⟩, mem_t (i := 490) (by decide +kernel), mem_t (i := 493) (by decide +kernel), mem_t (i := 491) (by decide +kernel), mem_t (i := 494) (by decide +kernel), mem_t (i := 495) (by decide +kernel), _, _, _, mem_t (i := 497) (w := .code y_Sm_isBetter b_Sm_isBetter 3 (some .boolean)) (by decide +kernel)⟩
theorem l_Pl_7 : LkV "WhoSaysOne$Player" 7 y_Gm_leastAboveOne := ⟨mem_t (i := 501) (by decide +kernel), mem_t (i := 455) (by decide +kernel), mem_t (i := 456) (by decide +kernel)⟩
theorem l_X_166 : LkV "WhoSaysOne" 166 y_Gm_openBehind := ⟨mem_t (i := 502) (by decide +kernel), mem_t (i := 486) (by decide +kernel), mem_t (i := 487) (by decide +kernel)⟩
theorem l_X_169 : LkV "WhoSaysOne" 169 y_Gm_open := ⟨mem_t (i := 503) (by decide +kernel), mem_t (i := 341) (by decide +kernel), mem_t (i := 342) (by decide +kernel)⟩
theorem l_X_173 : LkV "WhoSaysOne" 173 y_Gm_pairNumber := ⟨mem_t (i := 504) (by decide +kernel), mem_t (i := 470) (by decide +kernel), mem_t (i := 471) (by decide +kernel)⟩
theorem l_X_177 : LkV "WhoSaysOne" 177 y_So_load := ⟨mem_t (i := 505) (by decide +kernel), mem_t (i := 413) (by decide +kernel), mem_t (i := 414) (by decide +kernel)⟩
theorem l_X_181 : LkV "WhoSaysOne" 181 y_So_winCount := ⟨mem_t (i := 506) (by decide +kernel), mem_t (i := 507) (by decide +kernel), mem_t (i := 508) (by decide +kernel)⟩
theorem l_X_184 : LkV "WhoSaysOne" 184 y_Gm_openCount := ⟨mem_t (i := 510) (by decide +kernel), mem_t (i := 511) (by decide +kernel), mem_t (i := 512) (by decide +kernel)⟩
theorem l_X_187 : LkV "WhoSaysOne" 187 y_Gm_openAboveOne := ⟨mem_t (i := 514) (by decide +kernel), mem_t (i := 459) (by decide +kernel), mem_t (i := 460) (by decide +kernel)⟩
theorem l_X_190 : LkS "WhoSaysOne" 190 y_Lg_bitCount := ⟨mem_t (i := 515) (by decide +kernel), mem_t (i := 418) (by decide +kernel)⟩
theorem l_L_70 : LkV "WhoSaysOneLaw" 70 y_X_say := ⟨mem_t (i := 516) (by decide +kernel), mem_t (i := 517) (by decide +kernel), mem_t (i := 518) (by decide +kernel)⟩
theorem l_X_196 : LkV "WhoSaysOne" 196 y_Gm_isOpen := ⟨mem_t (i := 520) (by decide +kernel), mem_t (i := 337) (by decide +kernel), mem_t (i := 338) (by decide +kernel)⟩
theorem l_X_200 : LkV "WhoSaysOne" 200 y_Gm_add := ⟨mem_t (i := 521) (by decide +kernel), mem_t (i := 347) (by decide +kernel), mem_t (i := 348) (by decide +kernel)⟩
theorem l_L_74 : LkV "WhoSaysOneLaw" 74 y_X_may := ⟨mem_t (i := 522) (by decide +kernel), mem_t (i := 523) (by decide +kernel), mem_t (i := 524) (by decide +kernel)⟩
theorem l_L_78 : LkV "WhoSaysOneLaw" 78 y_X_said := ⟨mem_t (i := 526) (by decide +kernel), mem_t (i := 527) (by decide +kernel), mem_t (i := 528) (by decide +kernel)⟩
theorem l_L_82 : LkV "WhoSaysOneLaw" 82 y_X_undo := ⟨mem_t (i := 530) (by decide +kernel), mem_t (i := 531) (by decide +kernel), mem_t (i := 532) (by decide +kernel)⟩
theorem l_X_207 : LkV "WhoSaysOne" 207 y_Gm_cut := ⟨mem_t (i := 534) (by decide +kernel), mem_t (i := 535) (by decide +kernel), mem_t (i := 536) (by decide +kernel)⟩
theorem l_Gm_34 : LkV "WhoSaysOne$Game" 34 y_Gm_reachedWithout := ⟨mem_t (i := 538) (by decide +kernel), mem_t (i := 540) (by decide +kernel), mem_p (i := 13) (by decide +kernel)⟩
theorem l_L_86 : LkV "WhoSaysOneLaw" 86 y_X_turn := ⟨mem_t (i := 542) (by decide +kernel), mem_t (i := 543) (by decide +kernel), mem_t (i := 544) (by decide +kernel)⟩
theorem l_X_210 : LkV "WhoSaysOne" 210 y_Gm_loser := ⟨mem_t (i := 546) (by decide +kernel), mem_t (i := 547) (by decide +kernel), mem_t (i := 548) (by decide +kernel)⟩
theorem l_Gm_76 : LkV "WhoSaysOne$Game" 76 y_Gm_isOver := ⟨mem_t (i := 550) (by decide +kernel), mem_t (i := 398) (by decide +kernel), mem_t (i := 399) (by decide +kernel)⟩
theorem l_L_90 : LkV "WhoSaysOneLaw" 90 y_X_keep := ⟨mem_t (i := 551) (by decide +kernel), mem_t (i := 552) (by decide +kernel), mem_t (i := 553) (by decide +kernel)⟩
theorem l_L_94 : LkV "WhoSaysOneLaw" 94 y_X_on := ⟨mem_t (i := 555) (by decide +kernel), mem_t (i := 556) (by decide +kernel), mem_t (i := 557) (by decide +kernel)⟩
theorem l_L_98 : LkV "WhoSaysOneLaw" 98 y_X_had := ⟨mem_t (i := 559) (by decide +kernel), mem_t (i := 560) (by decide +kernel), mem_t (i := 561) (by decide +kernel)⟩
theorem l_X_213 : LkV "WhoSaysOne" 213 y_Gm_divisor := ⟨mem_t (i := 563) (by decide +kernel), mem_t (i := 564) (by decide +kernel), mem_t (i := 565) (by decide +kernel)⟩
theorem l_X_216 : LkV "WhoSaysOne" 216 y_Su_fewest := ⟨mem_t (i := 567) (by decide +kernel), mem_t (i := 568) (by decide +kernel), mem_t (i := 569) (by decide +kernel)⟩
theorem l_Su_35 : LkS "WhoSaysOne$Sums" 35 y_Ar_fillI := ⟨mem_t (i := 572) (by decide +kernel), mem_t (i := 258) (by decide +kernel)⟩
theorem l_Su_70 : LkV "WhoSaysOne$Sums" 70 y_Su_takeThrice := ⟨mem_t (i := 573) (by decide +kernel), mem_t (i := 575) (by decide +kernel), mem_p (i := 14) (by decide +kernel)⟩
theorem l_Su_80 : LkS "WhoSaysOne$Sums" 80 y_Ma_min := ⟨mem_t (i := 577) (by decide +kernel), mem_t (i := 445) (by decide +kernel)⟩
theorem l_Su_74 : LkV "WhoSaysOne$Sums" 74 y_Su_takeOften := ⟨mem_t (i := 578) (by decide +kernel), mem_t (i := 580) (by decide +kernel), mem_p (i := 15) (by decide +kernel)⟩
theorem l_L_102 : LkV "WhoSaysOneLaw" 102 y_X_ways := ⟨mem_t (i := 583) (by decide +kernel), mem_t (i := 584) (by decide +kernel), mem_t (i := 585) (by decide +kernel)⟩
theorem l_X_221 : LkV "WhoSaysOne" 221 y_Su_waysOf := ⟨mem_t (i := 587) (by decide +kernel), mem_t (i := 588) (by decide +kernel), mem_t (i := 589) (by decide +kernel)⟩
theorem l_Su_77 : LkS "WhoSaysOne$Sums" 77 y_Ar_fillJ := ⟨mem_t (i := 591) (by decide +kernel), mem_t (i := 592) (by decide +kernel)⟩
theorem l_X_225 : LkV "WhoSaysOne" 225 y_X_tellFraction := ⟨mem_t (i := 594) (by decide +kernel), mem_t (i := 596) (by decide +kernel), mem_p (i := 16) (by decide +kernel)⟩
theorem l_X_319 : LkS "WhoSaysOne" 319 y_X_divisorOf := ⟨mem_t (i := 598) (by decide +kernel), mem_t (i := 363) (by decide +kernel)⟩
theorem l_L_106 : LkV "WhoSaysOneLaw" 106 y_X_byJust := ⟨mem_t (i := 599) (by decide +kernel), mem_t (i := 600) (by decide +kernel), mem_t (i := 601) (by decide +kernel)⟩
theorem l_X_229 : LkV "WhoSaysOne" 229 y_Su_waysByJust := ⟨mem_t (i := 603) (by decide +kernel), mem_t (i := 604) (by decide +kernel), mem_t (i := 605) (by decide +kernel)⟩
theorem l_L_110 : LkV "WhoSaysOneLaw" 110 y_X_gaps := ⟨mem_t (i := 607) (by decide +kernel), mem_t (i := 608) (by decide +kernel), mem_t (i := 609) (by decide +kernel)⟩
theorem l_X_233 : LkV "WhoSaysOne" 233 y_Su_load := ⟨mem_t (i := 611) (by decide +kernel), mem_t (i := 612) (by decide +kernel), mem_t (i := 613) (by decide +kernel)⟩
theorem l_Su_46 : LkV "WhoSaysOne$Sums" 46 y_Gm_divisor := ⟨mem_t (i := 615) (by decide +kernel), mem_t (i := 564) (by decide +kernel), mem_t (i := 565) (by decide +kernel)⟩
theorem l_Su_56 : LkS "WhoSaysOne$Sums" 56 y_Su_widen := ⟨mem_t (i := 616) (by decide +kernel), mem_t (i := 617) (by decide +kernel)⟩
theorem l_X_235 : LkV "WhoSaysOne" 235 y_Su_isEndless := ⟨mem_t (i := 620) (by decide +kernel), mem_t (i := 621) (by decide +kernel), mem_t (i := 622) (by decide +kernel)⟩
theorem l_Su_60 : LkS "WhoSaysOne$Sums" 60 y_Su_greatestOf := ⟨mem_t (i := 624) (by decide +kernel), mem_t (i := 625) (by decide +kernel)⟩
theorem l_Su_89 : LkS "WhoSaysOne$Sums" 89 y_Ma_max := ⟨mem_t (i := 627) (by decide +kernel), mem_t (i := 628) (by decide +kernel)⟩
theorem l_X_241 : LkV "WhoSaysOne" 241 y_Su_greatestGap := ⟨mem_t (i := 630) (by decide +kernel), mem_t (i := 631) (by decide +kernel), mem_t (i := 632) (by decide +kernel)⟩
theorem l_X_244 : LkV "WhoSaysOne" 244 y_Su_isHad := ⟨mem_t (i := 634) (by decide +kernel), mem_t (i := 635) (by decide +kernel), mem_t (i := 636) (by decide +kernel)⟩
theorem l_X_247 : LkV "WhoSaysOne" 247 y_Rw_add := ⟨mem_t (i := 638) (by decide +kernel), mem_t (i := 639) (by decide +kernel), mem_t (i := 640) (by decide +kernel)⟩
theorem l_X_248 : LkV "WhoSaysOne" 248 y_Su_gapCount := ⟨mem_t (i := 643) (by decide +kernel), mem_t (i := 644) (by decide +kernel), mem_t (i := 645) (by decide +kernel)⟩
theorem l_L_114 : LkV "WhoSaysOneLaw" 114 y_X_greatest := ⟨mem_t (i := 647) (by decide +kernel), mem_t (i := 648) (by decide +kernel), mem_t (i := 649) (by decide +kernel)⟩
theorem l_L_118 : LkV "WhoSaysOneLaw" 118 y_X_rest := ⟨mem_t (i := 651) (by decide +kernel), mem_t (i := 652) (by decide +kernel), mem_t (i := 653) (by decide +kernel)⟩
theorem l_L_122 : LkV "WhoSaysOneLaw" 122 y_X_needed := ⟨mem_t (i := 655) (by decide +kernel), mem_t (i := 656) (by decide +kernel), mem_t (i := 657) (by decide +kernel)⟩
theorem l_X_251 : LkV "WhoSaysOne" 251 y_Gm_neededBits := ⟨mem_t (i := 659) (by decide +kernel), mem_t (i := 660) (by decide +kernel), mem_t (i := 661) (by decide +kernel)⟩
theorem l_X_254 : LkS "WhoSaysOne" 254 y_In_bitCount := ⟨mem_t (i := 663) (by decide +kernel), mem_t (i := 664) (by decide +kernel)⟩
theorem l_L_126 : LkV "WhoSaysOneLaw" 126 y_X_common := ⟨mem_t (i := 669) (by decide +kernel), mem_t (i := 670) (by decide +kernel), mem_t (i := 671) (by decide +kernel)⟩
theorem l_L_130 : LkV "WhoSaysOneLaw" 130 y_X_from := ⟨mem_t (i := 673) (by decide +kernel), mem_t (i := 674) (by decide +kernel), mem_t (i := 675) (by decide +kernel)⟩
theorem l_L_134 : LkV "WhoSaysOneLaw" 134 y_X_wish := ⟨mem_t (i := 677) (by decide +kernel), mem_t (i := 678) (by decide +kernel), mem_t (i := 679) (by decide +kernel)⟩
theorem l_X_258 : LkV "WhoSaysOne" 258 y_Su_greatestWith := ⟨mem_t (i := 681) (by decide +kernel), mem_t (i := 682) (by decide +kernel), mem_t (i := 683) (by decide +kernel)⟩
theorem l_Su_64 : Cond.methodLink "WhoSaysOne$Sums" 64 arraycopyName ∈ lw_tbl := mem_t (i := 685) (by decide +kernel)
theorem l_L_138 : LkV "WhoSaysOneLaw" 138 y_X_whose := ⟨mem_t (i := 686) (by decide +kernel), mem_t (i := 687) (by decide +kernel), mem_t (i := 688) (by decide +kernel)⟩
theorem l_X_261 : LkV "WhoSaysOne" 261 y_X_refusedSolving := ⟨mem_t (i := 690) (by decide +kernel), mem_t (i := 692) (by decide +kernel), mem_p (i := 17) (by decide +kernel)⟩
theorem l_L_142 : LkV "WhoSaysOneLaw" 142 y_X_best := ⟨mem_t (i := 694) (by decide +kernel), mem_t (i := 695) (by decide +kernel), mem_t (i := 696) (by decide +kernel)⟩
theorem l_X_264 : LkV "WhoSaysOne" 264 y_So_winsBy := ⟨mem_t (i := 698) (by decide +kernel), mem_t (i := 429) (by decide +kernel), mem_t (i := 430) (by decide +kernel)⟩
theorem l_L_146 : LkV "WhoSaysOneLaw" 146 y_X_lasts := ⟨mem_t (i := 699) (by decide +kernel), mem_t (i := 700) (by decide +kernel), mem_t (i := 701) (by decide +kernel)⟩
theorem l_X_267 : LkV "WhoSaysOne" 267 y_So_shortest := ⟨mem_t (i := 703) (by decide +kernel), mem_t (i := 704) (by decide +kernel), mem_t (i := 705) (by decide +kernel)⟩
theorem l_X_270 : LkV "WhoSaysOne" 270 y_So_gapCount := ⟨mem_t (i := 707) (by decide +kernel), mem_t (i := 708) (by decide +kernel), mem_t (i := 709) (by decide +kernel)⟩
theorem l_So_46 : LkS "WhoSaysOne$Solver" 46 y_In_bitCount := ⟨mem_t (i := 711) (by decide +kernel), mem_t (i := 664) (by decide +kernel)⟩
theorem l_L_150 : LkV "WhoSaysOneLaw" 150 y_X_share := ⟨mem_t (i := 712) (by decide +kernel), mem_t (i := 713) (by decide +kernel), mem_t (i := 714) (by decide +kernel)⟩
theorem l_L_154 : LkV "WhoSaysOneLaw" 154 y_X_says := ⟨mem_t (i := 716) (by decide +kernel), mem_t (i := 717) (by decide +kernel), mem_t (i := 718) (by decide +kernel)⟩
theorem l_L_158 : LkV "WhoSaysOneLaw" 158 y_X_play := ⟨mem_t (i := 720) (by decide +kernel), mem_t (i := 721) (by decide +kernel), mem_t (i := 722) (by decide +kernel)⟩
theorem l_L_162 : LkV "WhoSaysOneLaw" 162 y_X_list := ⟨mem_t (i := 726) (by decide +kernel), mem_t (i := 727) (by decide +kernel), mem_t (i := 728) (by decide +kernel)⟩
theorem l_X_275 : LkV "WhoSaysOne" 275 y_Rw_asBits := ⟨mem_t (i := 730) (by decide +kernel), mem_t (i := 731) (by decide +kernel), mem_t (i := 732) (by decide +kernel)⟩
theorem l_X_278 : LkS "WhoSaysOne" 278 y_X_leastPaid := ⟨mem_t (i := 735) (by decide +kernel), mem_t (i := 736) (by decide +kernel)⟩
theorem l_X_323 : LkS "WhoSaysOne" 323 y_X_isGap := ⟨mem_t (i := 738) (by decide +kernel), mem_t (i := 739) (by decide +kernel)⟩
theorem l_X_326 : LkS "WhoSaysOne" 326 y_X_isPaid := ⟨mem_t (i := 741) (by decide +kernel), mem_t (i := 742) (by decide +kernel)⟩
theorem l_L_166 : LkV "WhoSaysOneLaw" 166 y_X_makes := ⟨mem_t (i := 744) (by decide +kernel), mem_t (i := 745) (by decide +kernel), mem_t (i := 746) (by decide +kernel)⟩
theorem l_X_281 : LkS "WhoSaysOne" 281 y_X_isMaker := ⟨mem_t (i := 748) (by decide +kernel), mem_t (i := 749) (by decide +kernel)⟩
theorem l_L_170 : LkV "WhoSaysOneLaw" 170 y_X_tree := ⟨mem_t (i := 751) (by decide +kernel), mem_t (i := 752) (by decide +kernel), mem_t (i := 753) (by decide +kernel)⟩
theorem l_X_285 : LkS "WhoSaysOne" 285 y_X_setsBelow := ⟨mem_t (i := 755) (by decide +kernel), mem_t (i := 756) (by decide +kernel)⟩
theorem l_X_333 : LkS "WhoSaysOne" 333 y_X_lowestOf := ⟨mem_t (i := 760) (by decide +kernel), mem_t (i := 360) (by decide +kernel)⟩
theorem l_L_174 : LkV "WhoSaysOneLaw" 174 y_X_asked := ⟨mem_t (i := 761) (by decide +kernel), mem_t (i := 762) (by decide +kernel), mem_t (i := 763) (by decide +kernel)⟩
theorem l_L_178 : LkV "WhoSaysOneLaw" 178 y_X_upper := ⟨mem_t (i := 765) (by decide +kernel), mem_t (i := 766) (by decide +kernel), mem_t (i := 767) (by decide +kernel)⟩
theorem l_L_183 : LkV "WhoSaysOneLaw" 183 y_X_lower := ⟨mem_t (i := 769) (by decide +kernel), mem_t (i := 770) (by decide +kernel), mem_t (i := 771) (by decide +kernel)⟩
theorem l_L_187 : LkV "WhoSaysOneLaw" 187 y_X_count := ⟨mem_t (i := 773) (by decide +kernel), mem_t (i := 774) (by decide +kernel), mem_t (i := 775) (by decide +kernel)⟩
theorem l_X_292 : LkV "WhoSaysOne" 292 y_X_playersOf := ⟨mem_t (i := 777) (by decide +kernel), mem_t (i := 779) (by decide +kernel), mem_p (i := 18) (by decide +kernel)⟩
theorem l_X_295 : LkV "WhoSaysOne" 295 y_X_keptCount := ⟨mem_t (i := 781) (by decide +kernel), mem_t (i := 783) (by decide +kernel), mem_p (i := 19) (by decide +kernel)⟩
theorem l_X_298 : LkS "WhoSaysOne" 298 y_X_thereOf := ⟨mem_t (i := 785) (by decide +kernel), mem_t (i := 786) (by decide +kernel)⟩
theorem l_L_191 : LkV "WhoSaysOneLaw" 191 y_X_finding := ⟨mem_t (i := 788) (by decide +kernel), mem_t (i := 789) (by decide +kernel), mem_t (i := 790) (by decide +kernel)⟩
theorem l_L_195 : LkV "WhoSaysOneLaw" 195 y_X_findings := ⟨mem_t (i := 792) (by decide +kernel), mem_t (i := 793) (by decide +kernel), mem_t (i := 794) (by decide +kernel)⟩
theorem l_L_199 : LkV "WhoSaysOneLaw" 199 y_X_digest := ⟨mem_t (i := 796) (by decide +kernel), mem_t (i := 797) (by decide +kernel), mem_t (i := 798) (by decide +kernel)⟩
theorem l_X_309 : LkV "WhoSaysOne" 309 y_X_count := ⟨mem_t (i := 802) (by decide +kernel), mem_t (i := 774) (by decide +kernel), mem_t (i := 775) (by decide +kernel)⟩
theorem l_X_312 : LkV "WhoSaysOne" 312 y_Gm_digestNumbers := ⟨mem_t (i := 803) (by decide +kernel), mem_t (i := 804) (by decide +kernel), mem_t (i := 805) (by decide +kernel)⟩
theorem l_X_316 : LkV "WhoSaysOne" 316 y_Rw_digestPlaces := ⟨mem_t (i := 808) (by decide +kernel), mem_t (i := 809) (by decide +kernel), mem_t (i := 810) (by decide +kernel)⟩
theorem l_L_12 : Cond.methodLink "WhoSaysOneLaw" 12 y_M_init ∈ lw_tbl ∧ Cond.instanceMethod y_M_init ∈ lw_tbl := ⟨mem_t (i := 815) (by decide +kernel), mem_t (i := 816) (by decide +kernel)⟩
theorem l_M_1 : Cond.methodLink "WhoSaysOneModel" 1 objectInit ∈ lw_tbl := mem_t (i := 818) (by decide +kernel)
theorem l_L_194 : LkV "WhoSaysOneLaw" 194 y_M_finding := ⟨mem_t (i := 941) (by decide +kernel), mem_t (i := 942) (by decide +kernel), mem_t (i := 943) (by decide +kernel)⟩
theorem l_L_198 : LkV "WhoSaysOneLaw" 198 y_M_findings := ⟨mem_t (i := 945) (by decide +kernel), mem_t (i := 946) (by decide +kernel), mem_t (i := 947) (by decide +kernel)⟩
theorem l_M_96 : LkS "WhoSaysOneModel" 96 y_M_in := ⟨mem_t (i := 949) (by decide +kernel), mem_t (i := 950) (by decide +kernel)⟩
theorem l_L_177 : LkV "WhoSaysOneLaw" 177 y_M_asked := ⟨mem_t (i := 952) (by decide +kernel), mem_t (i := 953) (by decide +kernel), mem_t (i := 954) (by decide +kernel)⟩
theorem l_L_182 : LkV "WhoSaysOneLaw" 182 y_M_upper := ⟨mem_t (i := 956) (by decide +kernel), mem_t (i := 957) (by decide +kernel), mem_t (i := 958) (by decide +kernel)⟩
theorem l_L_186 : LkV "WhoSaysOneLaw" 186 y_M_lower := ⟨mem_t (i := 960) (by decide +kernel), mem_t (i := 961) (by decide +kernel), mem_t (i := 962) (by decide +kernel)⟩
theorem l_L_17 : LkV "WhoSaysOneLaw" 17 y_M_row := ⟨mem_t (i := 964) (by decide +kernel), mem_t (i := 965) (by decide +kernel), mem_t (i := 966) (by decide +kernel)⟩
theorem l_M_110 : LkS "WhoSaysOneModel" 110 y_M_isRow := ⟨mem_t (i := 968) (by decide +kernel), mem_t (i := 969) (by decide +kernel)⟩
theorem l_M_114 : LkV "WhoSaysOneModel" 114 y_M_meets := ⟨mem_t (i := 971) (by decide +kernel), mem_t (i := 973) (by decide +kernel), mem_p (i := 20) (by decide +kernel)⟩
theorem l_L_22 : LkV "WhoSaysOneLaw" 22 y_M_lay := ⟨mem_t (i := 975) (by decide +kernel), mem_t (i := 976) (by decide +kernel), mem_t (i := 977) (by decide +kernel)⟩
theorem l_M_118 : LkV "WhoSaysOneModel" 118 y_M_rowAt := ⟨mem_t (i := 979) (by decide +kernel), mem_t (i := 981) (by decide +kernel), mem_p (i := 21) (by decide +kernel)⟩
theorem l_M_121 : LkV "WhoSaysOneModel" 121 y_M_tells := ⟨mem_t (i := 983) (by decide +kernel), mem_t (i := 985) (by decide +kernel), mem_p (i := 22) (by decide +kernel)⟩
theorem l_L_26 : LkV "WhoSaysOneLaw" 26 y_M_at := ⟨mem_t (i := 987) (by decide +kernel), mem_t (i := 988) (by decide +kernel), mem_t (i := 989) (by decide +kernel)⟩
theorem l_L_31 : LkV "WhoSaysOneLaw" 31 y_M_tear := ⟨mem_t (i := 991) (by decide +kernel), mem_t (i := 992) (by decide +kernel), mem_t (i := 993) (by decide +kernel)⟩
theorem l_L_36 : LkV "WhoSaysOneLaw" 36 y_M_copy := ⟨mem_t (i := 995) (by decide +kernel), mem_t (i := 996) (by decide +kernel), mem_t (i := 997) (by decide +kernel)⟩
theorem l_L_40 : LkV "WhoSaysOneLaw" 40 y_M_mean := ⟨mem_t (i := 999) (by decide +kernel), mem_t (i := 1000) (by decide +kernel), mem_t (i := 1001) (by decide +kernel)⟩
theorem l_L_44 : LkV "WhoSaysOneLaw" 44 y_M_text := ⟨mem_t (i := 1003) (by decide +kernel), mem_t (i := 1004) (by decide +kernel), mem_t (i := 1005) (by decide +kernel)⟩
theorem l_M_124 : LkS "WhoSaysOneModel" 124 y_M_isText := ⟨mem_t (i := 1007) (by decide +kernel), mem_t (i := 1008) (by decide +kernel)⟩
theorem l_L_48 : LkV "WhoSaysOneLaw" 48 y_M_put := ⟨mem_t (i := 1010) (by decide +kernel), mem_t (i := 1011) (by decide +kernel), mem_t (i := 1012) (by decide +kernel)⟩
theorem l_L_52 : LkV "WhoSaysOneLaw" 52 y_M_fault := ⟨mem_t (i := 1014) (by decide +kernel), mem_t (i := 1015) (by decide +kernel), mem_t (i := 1016) (by decide +kernel)⟩
theorem l_M_169 : LkV "WhoSaysOneModel" 169 y_M_faultOf := ⟨mem_t (i := 1018) (by decide +kernel), mem_t (i := 1020) (by decide +kernel), mem_p (i := 23) (by decide +kernel)⟩
theorem l_M_141 : LkV "WhoSaysOneModel" 141 y_M_byteAt := ⟨mem_t (i := 1022) (by decide +kernel), mem_t (i := 1024) (by decide +kernel), mem_p (i := 24) (by decide +kernel)⟩
theorem l_M_166 : LkV "WhoSaysOneModel" 166 y_M_readsItem := ⟨mem_t (i := 1026) (by decide +kernel), mem_t (i := 1028) (by decide +kernel), mem_p (i := 25) (by decide +kernel)⟩
theorem l_M_154 : LkV "WhoSaysOneModel" 154 y_M_readsLaw := ⟨mem_t (i := 1030) (by decide +kernel), mem_t (i := 1032) (by decide +kernel), mem_p (i := 26) (by decide +kernel)⟩
theorem l_M_157 : LkV "WhoSaysOneModel" 157 y_M_readsNumber := ⟨mem_t (i := 1034) (by decide +kernel), mem_t (i := 1036) (by decide +kernel), mem_p (i := 27) (by decide +kernel)⟩
theorem l_M_131 : LkV "WhoSaysOneModel" 131 y_M_layFew := ⟨mem_t (i := 1038) (by decide +kernel), mem_t (i := 1040) (by decide +kernel), mem_p (i := 28) (by decide +kernel)⟩
theorem l_M_106 : LkS "WhoSaysOneModel" 106 y_M_divisor := ⟨mem_t (i := 1043) (by decide +kernel), mem_t (i := 1044) (by decide +kernel)⟩
theorem l_M_128 : LkS "WhoSaysOneModel" 128 y_M_lesser := ⟨mem_t (i := 1046) (by decide +kernel), mem_t (i := 1047) (by decide +kernel)⟩
theorem l_M_135 : LkV "WhoSaysOneModel" 135 y_M_isHad := ⟨mem_t (i := 1049) (by decide +kernel), mem_t (i := 1051) (by decide +kernel), mem_p (i := 29) (by decide +kernel)⟩
theorem l_M_160 : LkS "WhoSaysOneModel" 160 y_M_kindOf := ⟨mem_t (i := 1053) (by decide +kernel), mem_t (i := 1054) (by decide +kernel)⟩
theorem l_L_56 : LkV "WhoSaysOneLaw" 56 y_M_game := ⟨mem_t (i := 1056) (by decide +kernel), mem_t (i := 1057) (by decide +kernel), mem_t (i := 1058) (by decide +kernel)⟩
theorem l_L_61 : LkV "WhoSaysOneLaw" 61 y_M_law := ⟨mem_t (i := 1060) (by decide +kernel), mem_t (i := 1061) (by decide +kernel), mem_t (i := 1062) (by decide +kernel)⟩
theorem l_L_65 : LkV "WhoSaysOneLaw" 65 y_M_player := ⟨mem_t (i := 1064) (by decide +kernel), mem_t (i := 1065) (by decide +kernel), mem_t (i := 1066) (by decide +kernel)⟩
theorem l_M_181 : LkV "WhoSaysOneModel" 181 y_M_isPlayer := ⟨mem_t (i := 1068) (by decide +kernel), mem_t (i := 1070) (by decide +kernel), mem_p (i := 30) (by decide +kernel)⟩
theorem l_L_73 : LkV "WhoSaysOneLaw" 73 y_M_say := ⟨mem_t (i := 1072) (by decide +kernel), mem_t (i := 1073) (by decide +kernel), mem_t (i := 1074) (by decide +kernel)⟩
theorem l_M_196 : LkV "WhoSaysOneModel" 196 y_M_isOver := ⟨mem_t (i := 1076) (by decide +kernel), mem_t (i := 1078) (by decide +kernel), mem_p (i := 31) (by decide +kernel)⟩
theorem l_M_188 : LkV "WhoSaysOneModel" 188 y_M_saidOne := ⟨mem_t (i := 1080) (by decide +kernel), mem_t (i := 1082) (by decide +kernel), mem_p (i := 32) (by decide +kernel)⟩
theorem l_M_192 : LkV "WhoSaysOneModel" 192 y_M_leftNow := ⟨mem_t (i := 1084) (by decide +kernel), mem_t (i := 1086) (by decide +kernel), mem_p (i := 33) (by decide +kernel)⟩
theorem l_M_184 : LkV "WhoSaysOneModel" 184 y_M_leftOf := ⟨mem_t (i := 1088) (by decide +kernel), mem_t (i := 1090) (by decide +kernel), mem_p (i := 34) (by decide +kernel)⟩
theorem l_M_199 : LkV "WhoSaysOneModel" 199 y_M_maySay := ⟨mem_t (i := 1092) (by decide +kernel), mem_t (i := 1094) (by decide +kernel), mem_p (i := 35) (by decide +kernel)⟩
theorem l_L_77 : LkV "WhoSaysOneLaw" 77 y_M_may := ⟨mem_t (i := 1096) (by decide +kernel), mem_t (i := 1097) (by decide +kernel), mem_t (i := 1098) (by decide +kernel)⟩
theorem l_L_81 : LkV "WhoSaysOneLaw" 81 y_M_said := ⟨mem_t (i := 1100) (by decide +kernel), mem_t (i := 1101) (by decide +kernel), mem_t (i := 1102) (by decide +kernel)⟩
theorem l_L_85 : LkV "WhoSaysOneLaw" 85 y_M_undo := ⟨mem_t (i := 1104) (by decide +kernel), mem_t (i := 1105) (by decide +kernel), mem_t (i := 1106) (by decide +kernel)⟩
theorem l_L_89 : LkV "WhoSaysOneLaw" 89 y_M_turn := ⟨mem_t (i := 1108) (by decide +kernel), mem_t (i := 1109) (by decide +kernel), mem_t (i := 1110) (by decide +kernel)⟩
theorem l_L_93 : LkV "WhoSaysOneLaw" 93 y_M_keep := ⟨mem_t (i := 1112) (by decide +kernel), mem_t (i := 1113) (by decide +kernel), mem_t (i := 1114) (by decide +kernel)⟩
theorem l_L_97 : LkV "WhoSaysOneLaw" 97 y_M_on := ⟨mem_t (i := 1116) (by decide +kernel), mem_t (i := 1117) (by decide +kernel), mem_t (i := 1118) (by decide +kernel)⟩
theorem l_L_101 : LkV "WhoSaysOneLaw" 101 y_M_had := ⟨mem_t (i := 1120) (by decide +kernel), mem_t (i := 1121) (by decide +kernel), mem_t (i := 1122) (by decide +kernel)⟩
theorem l_L_105 : LkV "WhoSaysOneLaw" 105 y_M_ways := ⟨mem_t (i := 1124) (by decide +kernel), mem_t (i := 1125) (by decide +kernel), mem_t (i := 1126) (by decide +kernel)⟩
theorem l_M_202 : LkV "WhoSaysOneModel" 202 y_M_whole := ⟨mem_t (i := 1128) (by decide +kernel), mem_t (i := 1130) (by decide +kernel), mem_p (i := 36) (by decide +kernel)⟩
theorem l_L_109 : LkV "WhoSaysOneLaw" 109 y_M_byJust := ⟨mem_t (i := 1132) (by decide +kernel), mem_t (i := 1133) (by decide +kernel), mem_t (i := 1134) (by decide +kernel)⟩
theorem l_L_113 : LkV "WhoSaysOneLaw" 113 y_M_gaps := ⟨mem_t (i := 1136) (by decide +kernel), mem_t (i := 1137) (by decide +kernel), mem_t (i := 1138) (by decide +kernel)⟩
theorem l_M_213 : LkV "WhoSaysOneModel" 213 y_M_isEndless := ⟨mem_t (i := 1140) (by decide +kernel), mem_t (i := 1142) (by decide +kernel), mem_p (i := 37) (by decide +kernel)⟩
theorem l_M_206 : LkV "WhoSaysOneModel" 206 y_M_commonOf := ⟨mem_t (i := 1144) (by decide +kernel), mem_t (i := 1146) (by decide +kernel), mem_p (i := 38) (by decide +kernel)⟩
theorem l_M_216 : LkV "WhoSaysOneModel" 216 y_M_layGaps := ⟨mem_t (i := 1148) (by decide +kernel), mem_t (i := 1150) (by decide +kernel), mem_p (i := 39) (by decide +kernel)⟩
theorem l_L_117 : LkV "WhoSaysOneLaw" 117 y_M_greatest := ⟨mem_t (i := 1152) (by decide +kernel), mem_t (i := 1153) (by decide +kernel), mem_t (i := 1154) (by decide +kernel)⟩
theorem l_L_121 : LkV "WhoSaysOneLaw" 121 y_M_rest := ⟨mem_t (i := 1156) (by decide +kernel), mem_t (i := 1157) (by decide +kernel), mem_t (i := 1158) (by decide +kernel)⟩
theorem l_L_125 : LkV "WhoSaysOneLaw" 125 y_M_needed := ⟨mem_t (i := 1160) (by decide +kernel), mem_t (i := 1161) (by decide +kernel), mem_t (i := 1162) (by decide +kernel)⟩
theorem l_M_219 : LkS "WhoSaysOneModel" 219 y_M_bits := ⟨mem_t (i := 1164) (by decide +kernel), mem_t (i := 1165) (by decide +kernel)⟩
theorem l_L_129 : LkV "WhoSaysOneLaw" 129 y_M_common := ⟨mem_t (i := 1167) (by decide +kernel), mem_t (i := 1168) (by decide +kernel), mem_t (i := 1169) (by decide +kernel)⟩
theorem l_L_133 : LkV "WhoSaysOneLaw" 133 y_M_from := ⟨mem_t (i := 1171) (by decide +kernel), mem_t (i := 1172) (by decide +kernel), mem_t (i := 1173) (by decide +kernel)⟩
theorem l_L_137 : LkV "WhoSaysOneLaw" 137 y_M_wish := ⟨mem_t (i := 1175) (by decide +kernel), mem_t (i := 1176) (by decide +kernel), mem_t (i := 1177) (by decide +kernel)⟩
theorem l_M_222 : LkV "WhoSaysOneModel" 222 y_M_areAll := ⟨mem_t (i := 1179) (by decide +kernel), mem_t (i := 1181) (by decide +kernel), mem_p (i := 40) (by decide +kernel)⟩
theorem l_M_226 : LkV "WhoSaysOneModel" 226 y_M_layOthers := ⟨mem_t (i := 1183) (by decide +kernel), mem_t (i := 1185) (by decide +kernel), mem_p (i := 41) (by decide +kernel)⟩
theorem l_L_141 : LkV "WhoSaysOneLaw" 141 y_M_whose := ⟨mem_t (i := 1187) (by decide +kernel), mem_t (i := 1188) (by decide +kernel), mem_t (i := 1189) (by decide +kernel)⟩
theorem l_M_251 : LkV "WhoSaysOneModel" 251 y_M_needSolved := ⟨mem_t (i := 1191) (by decide +kernel), mem_t (i := 1193) (by decide +kernel), mem_p (i := 42) (by decide +kernel)⟩
theorem l_M_245 : LkV "WhoSaysOneModel" 245 y_M_isSolved := ⟨mem_t (i := 1195) (by decide +kernel), mem_t (i := 1197) (by decide +kernel), mem_p (i := 43) (by decide +kernel)⟩
theorem l_M_248 : LkV "WhoSaysOneModel" 248 y_M_layWins := ⟨mem_t (i := 1199) (by decide +kernel), mem_t (i := 1201) (by decide +kernel), mem_p (i := 44) (by decide +kernel)⟩
theorem l_M_229 : LkS "WhoSaysOneModel" 229 y_M_has := ⟨mem_t (i := 1203) (by decide +kernel), mem_t (i := 1204) (by decide +kernel)⟩
theorem l_M_233 : LkV "WhoSaysOneModel" 233 y_M_behind := ⟨mem_t (i := 1206) (by decide +kernel), mem_t (i := 1208) (by decide +kernel), mem_p (i := 45) (by decide +kernel)⟩
theorem l_M_236 : LkS "WhoSaysOneModel" 236 y_M_greater := ⟨mem_t (i := 1210) (by decide +kernel), mem_t (i := 1211) (by decide +kernel)⟩
theorem l_M_254 : LkV "WhoSaysOneModel" 254 y_M_winMany := ⟨mem_t (i := 1213) (by decide +kernel), mem_t (i := 1215) (by decide +kernel), mem_p (i := 46) (by decide +kernel)⟩
theorem l_M_242 : LkV "WhoSaysOneModel" 242 y_M_isWinning := ⟨mem_t (i := 1217) (by decide +kernel), mem_t (i := 1219) (by decide +kernel), mem_p (i := 47) (by decide +kernel)⟩
theorem l_M_239 : LkV "WhoSaysOneModel" 239 y_M_allGaps := ⟨mem_t (i := 1221) (by decide +kernel), mem_t (i := 1223) (by decide +kernel), mem_p (i := 48) (by decide +kernel)⟩
theorem l_L_145 : LkV "WhoSaysOneLaw" 145 y_M_best := ⟨mem_t (i := 1225) (by decide +kernel), mem_t (i := 1226) (by decide +kernel), mem_t (i := 1227) (by decide +kernel)⟩
theorem l_L_149 : LkV "WhoSaysOneLaw" 149 y_M_lasts := ⟨mem_t (i := 1229) (by decide +kernel), mem_t (i := 1230) (by decide +kernel), mem_t (i := 1231) (by decide +kernel)⟩
theorem l_L_153 : LkV "WhoSaysOneLaw" 153 y_M_share := ⟨mem_t (i := 1233) (by decide +kernel), mem_t (i := 1234) (by decide +kernel), mem_t (i := 1235) (by decide +kernel)⟩
theorem l_M_257 : LkV "WhoSaysOneModel" 257 y_M_fraction := ⟨mem_t (i := 1237) (by decide +kernel), mem_t (i := 1239) (by decide +kernel), mem_p (i := 49) (by decide +kernel)⟩
theorem l_L_157 : LkV "WhoSaysOneLaw" 157 y_M_says := ⟨mem_t (i := 1241) (by decide +kernel), mem_t (i := 1242) (by decide +kernel), mem_t (i := 1243) (by decide +kernel)⟩
theorem l_M_290 : LkV "WhoSaysOneModel" 290 y_M_saysOf := ⟨mem_t (i := 1245) (by decide +kernel), mem_t (i := 1247) (by decide +kernel), mem_p (i := 50) (by decide +kernel)⟩
theorem l_M_277 : LkV "WhoSaysOneModel" 277 y_M_byLeft := ⟨mem_t (i := 1249) (by decide +kernel), mem_t (i := 1251) (by decide +kernel), mem_p (i := 51) (by decide +kernel)⟩
theorem l_M_281 : LkV "WhoSaysOneModel" 281 y_M_pairOf := ⟨mem_t (i := 1253) (by decide +kernel), mem_t (i := 1255) (by decide +kernel), mem_p (i := 52) (by decide +kernel)⟩
theorem l_M_261 : LkV "WhoSaysOneModel" 261 y_M_greatestLeft := ⟨mem_t (i := 1257) (by decide +kernel), mem_t (i := 1259) (by decide +kernel), mem_p (i := 53) (by decide +kernel)⟩
theorem l_M_264 : LkV "WhoSaysOneModel" 264 y_M_leastAbove := ⟨mem_t (i := 1261) (by decide +kernel), mem_t (i := 1263) (by decide +kernel), mem_p (i := 54) (by decide +kernel)⟩
theorem l_M_284 : LkV "WhoSaysOneModel" 284 y_M_bestOf := ⟨mem_t (i := 1265) (by decide +kernel), mem_t (i := 1267) (by decide +kernel), mem_p (i := 55) (by decide +kernel)⟩
theorem l_M_287 : LkV "WhoSaysOneModel" 287 y_M_chanceOf := ⟨mem_t (i := 1269) (by decide +kernel), mem_t (i := 1271) (by decide +kernel), mem_p (i := 56) (by decide +kernel)⟩
theorem l_M_274 : LkV "WhoSaysOneModel" 274 y_M_aboveMany := ⟨mem_t (i := 1275) (by decide +kernel), mem_t (i := 1277) (by decide +kernel), mem_p (i := 57) (by decide +kernel)⟩
theorem l_L_69 : LkV "WhoSaysOneLaw" 69 y_M_mark := ⟨mem_t (i := 1279) (by decide +kernel), mem_t (i := 1280) (by decide +kernel), mem_t (i := 1281) (by decide +kernel)⟩
theorem l_M_294 : LkV "WhoSaysOneModel" 294 y_M_leftBehind := ⟨mem_t (i := 1283) (by decide +kernel), mem_t (i := 1285) (by decide +kernel), mem_p (i := 58) (by decide +kernel)⟩
theorem l_L_161 : LkV "WhoSaysOneLaw" 161 y_M_play := ⟨mem_t (i := 1287) (by decide +kernel), mem_t (i := 1288) (by decide +kernel), mem_t (i := 1289) (by decide +kernel)⟩
theorem l_L_165 : LkV "WhoSaysOneLaw" 165 y_M_list := ⟨mem_t (i := 1292) (by decide +kernel), mem_t (i := 1293) (by decide +kernel), mem_t (i := 1294) (by decide +kernel)⟩
theorem l_M_298 : LkV "WhoSaysOneModel" 298 y_M_needList := ⟨mem_t (i := 1296) (by decide +kernel), mem_t (i := 1298) (by decide +kernel), mem_p (i := 59) (by decide +kernel)⟩
theorem l_M_301 : LkV "WhoSaysOneModel" 301 y_M_wrongSum := ⟨mem_t (i := 1300) (by decide +kernel), mem_t (i := 1302) (by decide +kernel), mem_p (i := 60) (by decide +kernel)⟩
theorem l_L_169 : LkV "WhoSaysOneLaw" 169 y_M_makes := ⟨mem_t (i := 1304) (by decide +kernel), mem_t (i := 1305) (by decide +kernel), mem_t (i := 1306) (by decide +kernel)⟩
theorem l_M_304 : LkV "WhoSaysOneModel" 304 y_M_isMaker := ⟨mem_t (i := 1308) (by decide +kernel), mem_t (i := 1310) (by decide +kernel), mem_p (i := 61) (by decide +kernel)⟩
theorem l_L_173 : LkV "WhoSaysOneLaw" 173 y_M_tree := ⟨mem_t (i := 1312) (by decide +kernel), mem_t (i := 1313) (by decide +kernel), mem_t (i := 1314) (by decide +kernel)⟩
theorem l_M_307 : LkS "WhoSaysOneModel" 307 y_M_topOf := ⟨mem_t (i := 1316) (by decide +kernel), mem_t (i := 1317) (by decide +kernel)⟩
theorem l_M_310 : LkS "WhoSaysOneModel" 310 y_M_makesIt := ⟨mem_t (i := 1319) (by decide +kernel), mem_t (i := 1320) (by decide +kernel)⟩
theorem l_L_190 : LkV "WhoSaysOneLaw" 190 y_M_count := ⟨mem_t (i := 1322) (by decide +kernel), mem_t (i := 1323) (by decide +kernel), mem_t (i := 1324) (by decide +kernel)⟩
theorem l_M_313 : LkV "WhoSaysOneModel" 313 y_M_counted := ⟨mem_t (i := 1326) (by decide +kernel), mem_t (i := 1328) (by decide +kernel), mem_p (i := 62) (by decide +kernel)⟩
theorem l_L_202 : LkV "WhoSaysOneLaw" 202 y_M_digest := ⟨mem_t (i := 1330) (by decide +kernel), mem_t (i := 1331) (by decide +kernel), mem_t (i := 1332) (by decide +kernel)⟩
theorem l_M_321 : LkV "WhoSaysOneModel" 321 y_M_mix := ⟨mem_t (i := 1335) (by decide +kernel), mem_t (i := 1337) (by decide +kernel), mem_p (i := 63) (by decide +kernel)⟩
theorem l_M_329 : LkV "WhoSaysOneModel" 329 y_M_mixGame := ⟨mem_t (i := 1340) (by decide +kernel), mem_t (i := 1342) (by decide +kernel), mem_p (i := 64) (by decide +kernel)⟩
theorem n_X_20 : LkN "WhoSaysOne" 20 y_Gm_init "WhoSaysOne" := mem_t (i := 31) (by decide +kernel)
theorem n_X_35 : LkN "WhoSaysOne" 35 y_Pl_init "WhoSaysOne" := mem_t (i := 61) (by decide +kernel)
theorem n_X_38 : LkN "WhoSaysOne" 38 y_Sm_init "WhoSaysOne" := mem_t (i := 69) (by decide +kernel)
theorem n_Sm_3 : LkN "WhoSaysOne$Small" 3 y_Pl_init "WhoSaysOne" := mem_t (i := 72) (by decide +kernel)
theorem n_X_41 : LkN "WhoSaysOne" 41 y_Pr_init "WhoSaysOne" := mem_t (i := 76) (by decide +kernel)
theorem n_Pr_1 : LkN "WhoSaysOne$Pair" 1 y_Pl_init "WhoSaysOne" := mem_t (i := 79) (by decide +kernel)
theorem n_X_44 : LkN "WhoSaysOne" 44 y_Bs_init "WhoSaysOne" := mem_t (i := 83) (by decide +kernel)
theorem n_Bs_1 : LkN "WhoSaysOne$Best" 1 y_Pl_init "WhoSaysOne" := mem_t (i := 86) (by decide +kernel)
theorem n_X_47 : LkN "WhoSaysOne" 47 y_Lo_init "WhoSaysOne" := mem_t (i := 90) (by decide +kernel)
theorem n_Lo_1 : LkN "WhoSaysOne$Longer" 1 y_Sm_init "WhoSaysOne" := mem_t (i := 93) (by decide +kernel)
theorem n_X_50 : LkN "WhoSaysOne" 50 y_Ch_init "WhoSaysOne" := mem_t (i := 97) (by decide +kernel)
theorem n_Ch_1 : LkN "WhoSaysOne$Chance" 1 y_Pr_init "WhoSaysOne" := mem_t (i := 100) (by decide +kernel)
theorem n_X_61 : LkN "WhoSaysOne" 61 y_Rd_init "WhoSaysOne" := mem_t (i := 104) (by decide +kernel)
theorem n_Rd_11 : LkN "WhoSaysOne$Reader" 11 y_Gm_init "WhoSaysOne" := mem_t (i := 109) (by decide +kernel)
theorem n_X_68 : LkN "WhoSaysOne" 68 y_Su_init "WhoSaysOne" := mem_t (i := 128) (by decide +kernel)
theorem n_X_75 : LkN "WhoSaysOne" 75 y_So_init "WhoSaysOne" := mem_t (i := 156) (by decide +kernel)
theorem n_X_87 : LkN "WhoSaysOne" 87 y_Rw_init "WhoSaysOne" := mem_t (i := 174) (by decide +kernel)
theorem n_Rd_60 : LkN "WhoSaysOne$Reader" 60 y_X_isIn "WhoSaysOne" := mem_t (i := 331) (by decide +kernel)
theorem n_Gm_26 : LkN "WhoSaysOne$Game" 26 y_X_isIn "WhoSaysOne" := mem_t (i := 350) (by decide +kernel)
theorem n_Gm_66 : LkN "WhoSaysOne$Game" 66 y_X_lowestOf "WhoSaysOne" := mem_t (i := 359) (by decide +kernel)
theorem n_Gm_43 : LkN "WhoSaysOne$Game" 43 y_X_divisorOf "WhoSaysOne" := mem_t (i := 362) (by decide +kernel)
theorem n_Gm_69 : LkN "WhoSaysOne$Game" 69 y_X_highestOf "WhoSaysOne" := mem_t (i := 473) (by decide +kernel)
theorem n_Ch_23 : LkN "WhoSaysOne$Chance" 23 y_X_lowestOf "WhoSaysOne" := mem_t (i := 480) (by decide +kernel)
theorem n_Su_86 : LkN "WhoSaysOne$Sums" 86 y_X_divisorOf "WhoSaysOne" := mem_t (i := 619) (by decide +kernel)
theorem n_Rw_25 : LkN "WhoSaysOne$Row" 25 y_X_isIn "WhoSaysOne" := mem_t (i := 642) (by decide +kernel)
theorem s_X_isIn : Cond.static y_X_isIn ∈ lw_tbl := mem_t (i := 247) (by decide +kernel)
theorem s_Ar_fillI : Cond.static y_Ar_fillI ∈ lw_tbl := mem_t (i := 258) (by decide +kernel)
theorem s_Gm_widened : Cond.static y_Gm_widened ∈ lw_tbl := mem_t (i := 356) (by decide +kernel)
theorem s_X_lowestOf : Cond.static y_X_lowestOf ∈ lw_tbl := mem_t (i := 360) (by decide +kernel)
theorem s_X_divisorOf : Cond.static y_X_divisorOf ∈ lw_tbl := mem_t (i := 363) (by decide +kernel)
theorem s_X_isOf : Cond.static y_X_isOf ∈ lw_tbl := mem_t (i := 395) (by decide +kernel)
theorem s_Lg_bitCount : Cond.static y_Lg_bitCount ∈ lw_tbl := mem_t (i := 418) (by decide +kernel)
theorem s_So_gapsBehind : Cond.static y_So_gapsBehind ∈ lw_tbl := mem_t (i := 433) (by decide +kernel)
theorem s_So_solved : Cond.static y_So_solved ∈ lw_tbl := mem_t (i := 437) (by decide +kernel)
theorem s_Ma_min : Cond.static y_Ma_min ∈ lw_tbl := mem_t (i := 445) (by decide +kernel)
theorem s_So_isWin : Cond.static y_So_isWin ∈ lw_tbl := mem_t (i := 448) (by decide +kernel)
theorem s_X_highestOf : Cond.static y_X_highestOf ∈ lw_tbl := mem_t (i := 474) (by decide +kernel)
theorem s_Ar_fillJ : Cond.static y_Ar_fillJ ∈ lw_tbl := mem_t (i := 592) (by decide +kernel)
theorem s_Su_widen : Cond.static y_Su_widen ∈ lw_tbl := mem_t (i := 617) (by decide +kernel)
theorem s_Su_greatestOf : Cond.static y_Su_greatestOf ∈ lw_tbl := mem_t (i := 625) (by decide +kernel)
theorem s_Ma_max : Cond.static y_Ma_max ∈ lw_tbl := mem_t (i := 628) (by decide +kernel)
theorem s_In_bitCount : Cond.static y_In_bitCount ∈ lw_tbl := mem_t (i := 664) (by decide +kernel)
theorem s_X_leastPaid : Cond.static y_X_leastPaid ∈ lw_tbl := mem_t (i := 736) (by decide +kernel)
theorem s_X_isGap : Cond.static y_X_isGap ∈ lw_tbl := mem_t (i := 739) (by decide +kernel)
theorem s_X_isPaid : Cond.static y_X_isPaid ∈ lw_tbl := mem_t (i := 742) (by decide +kernel)
theorem s_X_isMaker : Cond.static y_X_isMaker ∈ lw_tbl := mem_t (i := 749) (by decide +kernel)
theorem s_X_setsBelow : Cond.static y_X_setsBelow ∈ lw_tbl := mem_t (i := 756) (by decide +kernel)
theorem s_X_thereOf : Cond.static y_X_thereOf ∈ lw_tbl := mem_t (i := 786) (by decide +kernel)
theorem s_M_in : Cond.static y_M_in ∈ lw_tbl := mem_t (i := 950) (by decide +kernel)
theorem s_M_isRow : Cond.static y_M_isRow ∈ lw_tbl := mem_t (i := 969) (by decide +kernel)
theorem s_M_isText : Cond.static y_M_isText ∈ lw_tbl := mem_t (i := 1008) (by decide +kernel)
theorem s_M_divisor : Cond.static y_M_divisor ∈ lw_tbl := mem_t (i := 1044) (by decide +kernel)
theorem s_M_lesser : Cond.static y_M_lesser ∈ lw_tbl := mem_t (i := 1047) (by decide +kernel)
theorem s_M_kindOf : Cond.static y_M_kindOf ∈ lw_tbl := mem_t (i := 1054) (by decide +kernel)
theorem s_M_bits : Cond.static y_M_bits ∈ lw_tbl := mem_t (i := 1165) (by decide +kernel)
theorem s_M_has : Cond.static y_M_has ∈ lw_tbl := mem_t (i := 1204) (by decide +kernel)
theorem s_M_greater : Cond.static y_M_greater ∈ lw_tbl := mem_t (i := 1211) (by decide +kernel)
theorem s_M_topOf : Cond.static y_M_topOf ∈ lw_tbl := mem_t (i := 1317) (by decide +kernel)
theorem s_M_makesIt : Cond.static y_M_makesIt ∈ lw_tbl := mem_t (i := 1320) (by decide +kernel)
theorem i_X_init : Cond.instanceMethod y_X_init ∈ lw_tbl := mem_t (i := 22) (by decide +kernel)
theorem i_ob : Cond.instanceMethod objectInit ∈ lw_tbl := mem_t (i := 25) (by decide +kernel)
theorem i_Gm_init : Cond.instanceMethod y_Gm_init ∈ lw_tbl := mem_t (i := 32) (by decide +kernel)
theorem i_Pl_init : Cond.instanceMethod y_Pl_init ∈ lw_tbl := mem_t (i := 62) (by decide +kernel)
theorem i_Sm_init : Cond.instanceMethod y_Sm_init ∈ lw_tbl := mem_t (i := 70) (by decide +kernel)
theorem i_Pr_init : Cond.instanceMethod y_Pr_init ∈ lw_tbl := mem_t (i := 77) (by decide +kernel)
theorem i_Bs_init : Cond.instanceMethod y_Bs_init ∈ lw_tbl := mem_t (i := 84) (by decide +kernel)
theorem i_Lo_init : Cond.instanceMethod y_Lo_init ∈ lw_tbl := mem_t (i := 91) (by decide +kernel)
theorem i_Ch_init : Cond.instanceMethod y_Ch_init ∈ lw_tbl := mem_t (i := 98) (by decide +kernel)
theorem i_Rd_init : Cond.instanceMethod y_Rd_init ∈ lw_tbl := mem_t (i := 105) (by decide +kernel)
theorem i_Su_init : Cond.instanceMethod y_Su_init ∈ lw_tbl := mem_t (i := 129) (by decide +kernel)
theorem i_So_init : Cond.instanceMethod y_So_init ∈ lw_tbl := mem_t (i := 157) (by decide +kernel)
theorem i_Rw_init : Cond.instanceMethod y_Rw_init ∈ lw_tbl := mem_t (i := 175) (by decide +kernel)
theorem i_M_init : Cond.instanceMethod y_M_init ∈ lw_tbl := mem_t (i := 816) (by decide +kernel)
theorem w_ob : Cond.instanceMethod objectInit ∈ lw_tbl ∧ Cond.code objectInit ⟨#[0xb1]⟩ 1 none ∈ lw_tbl := ⟨mem_t (i := 25) (by decide +kernel), mem_t (i := 26) (by decide +kernel)⟩
theorem w_ac : Cond.native arraycopyName ∈ lw_tbl ∧ Cond.static arraycopyName ∈ lw_tbl ∧ Cond.initialized "java/lang/System" ∈ lw_tbl := ⟨mem_t (i := 294) (by decide +kernel), mem_t (i := 293) (by decide +kernel), mem_t (i := 15) (by decide +kernel)⟩
theorem k_Gm_47 : Cond.constantLong "WhoSaysOne$Game" 47 (-1) ∈ lw_tbl := mem_t (i := 344) (by decide +kernel)
theorem k_Gm_49 : Cond.constantLong "WhoSaysOne$Game" 49 (2305843009213693951) ∈ lw_tbl := mem_t (i := 345) (by decide +kernel)
theorem k_Gm_86 : Cond.constantLong "WhoSaysOne$Game" 86 (-2) ∈ lw_tbl := mem_t (i := 358) (by decide +kernel)
theorem k_Lg_314 : Cond.constantLong "java/lang/Long" 314 (6148914691236517205) ∈ lw_tbl := mem_t (i := 420) (by decide +kernel)
theorem k_Lg_316 : Cond.constantLong "java/lang/Long" 316 (3689348814741910323) ∈ lw_tbl := mem_t (i := 421) (by decide +kernel)
theorem k_Lg_318 : Cond.constantLong "java/lang/Long" 318 (1085102592571150095) ∈ lw_tbl := mem_t (i := 422) (by decide +kernel)
theorem k_So_66 : Cond.constant "WhoSaysOne$Solver" 66 (268435455) ∈ lw_tbl := mem_t (i := 435) (by decide +kernel)
theorem k_So_79 : Cond.constant "WhoSaysOne$Solver" 79 (-1640531527) ∈ lw_tbl := mem_t (i := 443) (by decide +kernel)
theorem k_Gm_55 : Cond.constantLong "WhoSaysOne$Game" 55 (-3) ∈ lw_tbl := mem_t (i := 462) (by decide +kernel)
theorem k_Su_34 : Cond.constant "WhoSaysOne$Sums" 34 (1048576) ∈ lw_tbl := mem_t (i := 571) (by decide +kernel)
theorem k_X_220 : Cond.constant "WhoSaysOne" 220 (1048576) ∈ lw_tbl := mem_t (i := 582) (by decide +kernel)
theorem k_In_265 : Cond.constant "java/lang/Integer" 265 (1431655765) ∈ lw_tbl := mem_t (i := 666) (by decide +kernel)
theorem k_In_266 : Cond.constant "java/lang/Integer" 266 (858993459) ∈ lw_tbl := mem_t (i := 667) (by decide +kernel)
theorem k_In_267 : Cond.constant "java/lang/Integer" 267 (252645135) ∈ lw_tbl := mem_t (i := 668) (by decide +kernel)
theorem k_X_271 : Cond.constantLong "WhoSaysOne" 271 (2147483647) ∈ lw_tbl := mem_t (i := 724) (by decide +kernel)
theorem k_X_273 : Cond.constantLong "WhoSaysOne" 273 (48271) ∈ lw_tbl := mem_t (i := 725) (by decide +kernel)
theorem k_Rw_29 : Cond.constantLong "WhoSaysOne$Row" 29 (-1) ∈ lw_tbl := mem_t (i := 734) (by decide +kernel)
theorem k_X_329 : Cond.constantLong "WhoSaysOne" 329 (-1) ∈ lw_tbl := mem_t (i := 758) (by decide +kernel)
theorem k_X_331 : Cond.constantLong "WhoSaysOne" 331 (-2) ∈ lw_tbl := mem_t (i := 759) (by decide +kernel)
theorem k_X_305 : Cond.constantLong "WhoSaysOne" 305 (17) ∈ lw_tbl := mem_t (i := 800) (by decide +kernel)
theorem k_X_307 : Cond.constantLong "WhoSaysOne" 307 (31) ∈ lw_tbl := mem_t (i := 801) (by decide +kernel)
theorem k_Gm_80 : Cond.constantLong "WhoSaysOne$Game" 80 (31) ∈ lw_tbl := mem_t (i := 807) (by decide +kernel)
theorem k_Rw_31 : Cond.constantLong "WhoSaysOne$Row" 31 (31) ∈ lw_tbl := mem_t (i := 812) (by decide +kernel)
theorem k_M_127 : Cond.constant "WhoSaysOneModel" 127 (99999) ∈ lw_tbl := mem_t (i := 1042) (by decide +kernel)
theorem k_M_267 : Cond.constantLong "WhoSaysOneModel" 267 (48271) ∈ lw_tbl := mem_t (i := 1273) (by decide +kernel)
theorem k_M_272 : Cond.constantLong "WhoSaysOneModel" 272 (2147483647) ∈ lw_tbl := mem_t (i := 1274) (by decide +kernel)
theorem k_M_297 : Cond.constant "WhoSaysOneModel" 297 (2147483646) ∈ lw_tbl := mem_t (i := 1291) (by decide +kernel)
theorem k_M_327 : Cond.constantLong "WhoSaysOneModel" 327 (17) ∈ lw_tbl := mem_t (i := 1334) (by decide +kernel)
theorem k_M_316 : Cond.constantLong "WhoSaysOneModel" 316 (31) ∈ lw_tbl := mem_t (i := 1339) (by decide +kernel)
theorem k_M_325 : Cond.constantLong "WhoSaysOneModel" 325 (-1) ∈ lw_tbl := mem_t (i := 1344) (by decide +kernel)
theorem t_L_7 : Cond.classLink "WhoSaysOneLaw" 7 "WhoSaysOne" ∈ lw_tbl := mem_t (i := 19) (by decide +kernel)
theorem a_L_7 : Cls "WhoSaysOneLaw" 7 0 [.null, .null, .null, .null, .null, .null, .null, Vi 0, .null, .null, .null, Vi 0, Vj 0, Vj 0, Vi 0, .null] := ⟨"WhoSaysOne", ft_X, 16, fy_X, rfl, by decide, in_X, ok_X, (fun j hj _ _ => by rcases (show j = 0 ∨ j = 1 ∨ j = 2 ∨ j = 3 ∨ j = 4 ∨ j = 5 ∨ j = 6 ∨ j = 7 ∨ j = 8 ∨ j = 9 ∨ j = 10 ∨ j = 11 ∨ j = 12 ∨ j = 13 ∨ j = 14 ∨ j = 15 by omega) with rfl | rfl | rfl | rfl | rfl | rfl | rfl | rfl | rfl | rfl | rfl | rfl | rfl | rfl | rfl | rfl <;> rfl), mem_t (i := 19) (by decide +kernel), mem_t (i := 20) (by decide +kernel), mem_t (i := 1) (by decide +kernel)⟩
theorem t_X_9 : Cond.classLink "WhoSaysOne" 9 "WhoSaysOne$Row" ∈ lw_tbl := mem_t (i := 27) (by decide +kernel)
theorem a_X_9 : Cls "WhoSaysOne" 9 1 [.null, Vi 0] := ⟨"WhoSaysOne$Row", ft_Rw, 2, fy_Rw, rfl, by decide, in_Rw, ok_Rw, (fun j hj _ _ => by rcases (show j = 0 ∨ j = 1 by omega) with rfl | rfl <;> rfl), mem_t (i := 27) (by decide +kernel), mem_t (i := 173) (by decide +kernel), mem_t (i := 12) (by decide +kernel)⟩
theorem t_X_18 : Cond.classLink "WhoSaysOne" 18 "WhoSaysOne$Game" ∈ lw_tbl := mem_t (i := 29) (by decide +kernel)
theorem a_X_18 : Cls "WhoSaysOne" 18 2 [.null, Vi 0, Vi 0, Vj 0] := ⟨"WhoSaysOne$Game", ft_Gm, 4, fy_Gm, rfl, by decide, in_Gm, ok_Gm, (fun j hj _ _ => by rcases (show j = 0 ∨ j = 1 ∨ j = 2 ∨ j = 3 by omega) with rfl | rfl | rfl | rfl <;> rfl), mem_t (i := 29) (by decide +kernel), mem_t (i := 30) (by decide +kernel), mem_t (i := 2) (by decide +kernel)⟩
theorem t_X_33 : Cond.classLink "WhoSaysOne" 33 "WhoSaysOne$Player" ∈ lw_tbl := mem_t (i := 58) (by decide +kernel)
theorem a_X_33 : Cls "WhoSaysOne" 33 3 [] := ⟨"WhoSaysOne$Player", ft_Pl, 0, fy_Pl, rfl, by decide, in_Pl, ok_Pl, (fun j hj _ _ => by omega), mem_t (i := 58) (by decide +kernel), mem_t (i := 60) (by decide +kernel), mem_t (i := 3) (by decide +kernel)⟩
theorem t_X_36 : Cond.classLink "WhoSaysOne" 36 "WhoSaysOne$Small" ∈ lw_tbl := mem_t (i := 67) (by decide +kernel)
theorem a_X_36 : Cls "WhoSaysOne" 36 4 [] := ⟨"WhoSaysOne$Small", ft_Sm, 0, fy_Sm, rfl, by decide, in_Sm, ok_Sm, (fun j hj _ _ => by omega), mem_t (i := 67) (by decide +kernel), mem_t (i := 68) (by decide +kernel), mem_t (i := 4) (by decide +kernel)⟩
theorem t_X_39 : Cond.classLink "WhoSaysOne" 39 "WhoSaysOne$Pair" ∈ lw_tbl := mem_t (i := 74) (by decide +kernel)
theorem a_X_39 : Cls "WhoSaysOne" 39 5 [] := ⟨"WhoSaysOne$Pair", ft_Pr, 0, fy_Pr, rfl, by decide, in_Pr, ok_Pr, (fun j hj _ _ => by omega), mem_t (i := 74) (by decide +kernel), mem_t (i := 75) (by decide +kernel), mem_t (i := 5) (by decide +kernel)⟩
theorem t_X_42 : Cond.classLink "WhoSaysOne" 42 "WhoSaysOne$Best" ∈ lw_tbl := mem_t (i := 81) (by decide +kernel)
theorem a_X_42 : Cls "WhoSaysOne" 42 6 [] := ⟨"WhoSaysOne$Best", ft_Bs, 0, fy_Bs, rfl, by decide, in_Bs, ok_Bs, (fun j hj _ _ => by omega), mem_t (i := 81) (by decide +kernel), mem_t (i := 82) (by decide +kernel), mem_t (i := 6) (by decide +kernel)⟩
theorem t_X_45 : Cond.classLink "WhoSaysOne" 45 "WhoSaysOne$Longer" ∈ lw_tbl := mem_t (i := 88) (by decide +kernel)
theorem a_X_45 : Cls "WhoSaysOne" 45 7 [] := ⟨"WhoSaysOne$Longer", ft_Lo, 0, fy_Lo, rfl, by decide, in_Lo, ok_Lo, (fun j hj _ _ => by omega), mem_t (i := 88) (by decide +kernel), mem_t (i := 89) (by decide +kernel), mem_t (i := 7) (by decide +kernel)⟩
theorem t_X_48 : Cond.classLink "WhoSaysOne" 48 "WhoSaysOne$Chance" ∈ lw_tbl := mem_t (i := 95) (by decide +kernel)
theorem a_X_48 : Cls "WhoSaysOne" 48 8 [] := ⟨"WhoSaysOne$Chance", ft_Ch, 0, fy_Ch, rfl, by decide, in_Ch, ok_Ch, (fun j hj _ _ => by omega), mem_t (i := 95) (by decide +kernel), mem_t (i := 96) (by decide +kernel), mem_t (i := 8) (by decide +kernel)⟩
theorem t_X_59 : Cond.classLink "WhoSaysOne" 59 "WhoSaysOne$Reader" ∈ lw_tbl := mem_t (i := 102) (by decide +kernel)
theorem a_X_59 : Cls "WhoSaysOne" 59 9 [.null, .null, Vi 0, Vi 0] := ⟨"WhoSaysOne$Reader", ft_Rd, 4, fy_Rd, rfl, by decide, in_Rd, ok_Rd, (fun j hj _ _ => by rcases (show j = 0 ∨ j = 1 ∨ j = 2 ∨ j = 3 by omega) with rfl | rfl | rfl | rfl <;> rfl), mem_t (i := 102) (by decide +kernel), mem_t (i := 103) (by decide +kernel), mem_t (i := 9) (by decide +kernel)⟩
theorem t_Rd_9 : Cond.classLink "WhoSaysOne$Reader" 9 "WhoSaysOne$Game" ∈ lw_tbl := mem_t (i := 108) (by decide +kernel)
theorem a_Rd_9 : Cls "WhoSaysOne$Reader" 9 2 [.null, Vi 0, Vi 0, Vj 0] := ⟨"WhoSaysOne$Game", ft_Gm, 4, fy_Gm, rfl, by decide, in_Gm, ok_Gm, (fun j hj _ _ => by rcases (show j = 0 ∨ j = 1 ∨ j = 2 ∨ j = 3 by omega) with rfl | rfl | rfl | rfl <;> rfl), mem_t (i := 108) (by decide +kernel), mem_t (i := 30) (by decide +kernel), mem_t (i := 2) (by decide +kernel)⟩
theorem t_X_66 : Cond.classLink "WhoSaysOne" 66 "WhoSaysOne$Sums" ∈ lw_tbl := mem_t (i := 126) (by decide +kernel)
theorem a_X_66 : Cls "WhoSaysOne" 66 10 [.null, .null, Vi 0, .null, .null, .null] := ⟨"WhoSaysOne$Sums", ft_Su, 6, fy_Su, rfl, by decide, in_Su, ok_Su, (fun j hj _ _ => by rcases (show j = 0 ∨ j = 1 ∨ j = 2 ∨ j = 3 ∨ j = 4 ∨ j = 5 by omega) with rfl | rfl | rfl | rfl | rfl | rfl <;> rfl), mem_t (i := 126) (by decide +kernel), mem_t (i := 127) (by decide +kernel), mem_t (i := 10) (by decide +kernel)⟩
theorem t_Su_25 : Cond.classLink "WhoSaysOne$Sums" 25 "[[J" ∈ lw_tbl := mem_t (i := 132) (by decide +kernel)
theorem t_X_73 : Cond.classLink "WhoSaysOne" 73 "WhoSaysOne$Solver" ∈ lw_tbl := mem_t (i := 154) (by decide +kernel)
theorem a_X_73 : Cls "WhoSaysOne" 73 11 [Vi 0, .null, .null, Vi 0] := ⟨"WhoSaysOne$Solver", ft_So, 4, fy_So, rfl, by decide, in_So, ok_So, (fun j hj _ _ => by rcases (show j = 0 ∨ j = 1 ∨ j = 2 ∨ j = 3 by omega) with rfl | rfl | rfl | rfl <;> rfl), mem_t (i := 154) (by decide +kernel), mem_t (i := 155) (by decide +kernel), mem_t (i := 11) (by decide +kernel)⟩
theorem t_L_10 : Cond.classLink "WhoSaysOneLaw" 10 "WhoSaysOneModel" ∈ lw_tbl := mem_t (i := 813) (by decide +kernel)
theorem a_L_10 : Cls "WhoSaysOneLaw" 10 12 [Vi 0, .null, Vi 0, Vj 0, Vj 0, .null, .null, .null, .null, .null, .null, Vi 0, Vi 0, .null, Vi 0, .null, Vi 0, Vi 0, Vi 0, Vi 0, Vi 0, .null, .null, .null, .null, .null, .null, .null, Vi 0, .null, .null, .null, .null, .null, .null, Vj 0, .null, .null, .null, Vj 0] := ⟨"WhoSaysOneModel", ft_M, 40, fy_M, rfl, by decide, in_M, ok_M, (fun j hj _ _ => by rcases (show j = 0 ∨ j = 1 ∨ j = 2 ∨ j = 3 ∨ j = 4 ∨ j = 5 ∨ j = 6 ∨ j = 7 ∨ j = 8 ∨ j = 9 ∨ j = 10 ∨ j = 11 ∨ j = 12 ∨ j = 13 ∨ j = 14 ∨ j = 15 ∨ j = 16 ∨ j = 17 ∨ j = 18 ∨ j = 19 ∨ j = 20 ∨ j = 21 ∨ j = 22 ∨ j = 23 ∨ j = 24 ∨ j = 25 ∨ j = 26 ∨ j = 27 ∨ j = 28 ∨ j = 29 ∨ j = 30 ∨ j = 31 ∨ j = 32 ∨ j = 33 ∨ j = 34 ∨ j = 35 ∨ j = 36 ∨ j = 37 ∨ j = 38 ∨ j = 39 by omega) with rfl | rfl | rfl | rfl | rfl | rfl | rfl | rfl | rfl | rfl | rfl | rfl | rfl | rfl | rfl | rfl | rfl | rfl | rfl | rfl | rfl | rfl | rfl | rfl | rfl | rfl | rfl | rfl | rfl | rfl | rfl | rfl | rfl | rfl | rfl | rfl | rfl | rfl | rfl | rfl <;> rfl), mem_t (i := 813) (by decide +kernel), mem_t (i := 814) (by decide +kernel), mem_t (i := 13) (by decide +kernel)⟩
theorem ac_int : Cond.arrayClass .int ∈ lw_tbl := mem_t (i := 56) (by decide +kernel)
theorem ac_boolean : Cond.arrayClass .boolean ∈ lw_tbl := mem_t (i := 66) (by decide +kernel)
theorem ac_long : Cond.arrayClass .long ∈ lw_tbl := mem_t (i := 153) (by decide +kernel)
theorem ac_byte : Cond.arrayClass .byte ∈ lw_tbl := mem_t (i := 940) (by decide +kernel)
theorem ao_Rw : Cond.arrayOver (.object "WhoSaysOne$Row") ∈ lw_tbl := mem_t (i := 28) (by decide +kernel)
theorem ao_Gm : Cond.arrayOver (.object "WhoSaysOne$Game") ∈ lw_tbl := mem_t (i := 57) (by decide +kernel)
theorem ao_Pl : Cond.arrayOver (.object "WhoSaysOne$Player") ∈ lw_tbl := mem_t (i := 59) (by decide +kernel)
theorem ao_long : Cond.arrayOver (.array .long) ∈ lw_tbl := mem_t (i := 133) (by decide +kernel)
theorem ca_Lo_Sm : Cond.castable "WhoSaysOne$Longer" "WhoSaysOne$Small" ∈ lw_tbl := mem_t (i := 1346) (by decide +kernel)
theorem ca_Ch_Pr : Cond.castable "WhoSaysOne$Chance" "WhoSaysOne$Pair" ∈ lw_tbl := mem_t (i := 1347) (by decide +kernel)
theorem ca_Sm_Pl : Cond.castable "WhoSaysOne$Small" "WhoSaysOne$Player" ∈ lw_tbl := mem_t (i := 1348) (by decide +kernel)
theorem ca_Pr_Pl : Cond.castable "WhoSaysOne$Pair" "WhoSaysOne$Player" ∈ lw_tbl := mem_t (i := 1349) (by decide +kernel)
theorem ca_Bs_Pl : Cond.castable "WhoSaysOne$Best" "WhoSaysOne$Player" ∈ lw_tbl := mem_t (i := 1350) (by decide +kernel)
theorem ca_Lo_Pl : Cond.castable "WhoSaysOne$Longer" "WhoSaysOne$Player" ∈ lw_tbl := mem_t (i := 1351) (by decide +kernel)
theorem ca_Ch_Pl : Cond.castable "WhoSaysOne$Chance" "WhoSaysOne$Player" ∈ lw_tbl := mem_t (i := 1352) (by decide +kernel)
