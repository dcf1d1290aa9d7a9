/-! part 90: the law's loop -/
def Inv (w : Mem) : Prop := OK (aX w) ∧ aX w = aM w ∧ XJ w
theorem aM_fra {w w' : Mem} (h : ∀ b, 76 ≤ b → w' b = w b) : aM w' = aM w := aM_scr (fun b hb => h b (by omega)) (fun j _ => by rw [h 76 (by omega)])
theorem aX_fra {w w' : Mem} (h : ∀ b, b < 76 → w' b = w b) : aX w' = aX w := aX_scr (fun b hb => h b (by omega))
theorem inv_m {w : Mem} (h : Inv w) : OK (aM w) := by rw [← h.2.1]; exact h.1
theorem inv_mid {w w1 : Mem} {p : Int × Sta} {z : Int} (h : Inv w) (h1 : PX w p z w1) : aM w1 = aX w ∧ OK (aM w1) := by
  have e : aM w1 = aX w := (aM_fra h1.2.2.2).trans h.2.1.symm
  exact ⟨e, by rw [e]; exact h.1⟩
theorem inv_end {w w1 w2 : Mem} {p : Int × Sta} {z z2 : Int} (h : Inv w) (hp0 : OK p.2) (h1 : PX w p z w1) (h2 : PM w1 p z2 w2) : z = z2 ∧ Inv w2 := by
  have e : aX w2 = p.2 := (aX_fra h2.2.2).trans h1.2.1
  exact ⟨h1.1.trans h2.1.symm, by rw [e]; exact hp0, e.trans h2.2.1.symm, h1.2.2.1.ext (fun b hb => h2.2.2 b (by omega))⟩
theorem inv_sm {w w2 : Mem} (h : Inv w) (h2 : SM w w2) : Inv w2 := by
  have e : aX w2 = aX w := aX_fra h2.2
  exact ⟨by rw [e]; exact h.1, by rw [e, h2.1]; exact h.2.1, h.2.2.ext (fun b hb => h2.2 b (by omega))⟩
theorem i_and63 (x : Int) : ∃ z : Int, Int32.ofInt x &&& Int32.ofInt 63 = Int32.ofInt z ∧ 0 ≤ z ∧ z < 64 := by
  refine ⟨(((Int32.ofInt x).toBitVec.toNat &&& 63 : Nat) : Int), ?_, by omega, ?_⟩
  · have e := i_and (Int32.ofInt x).toBitVec.toNat 63
    rw [← e]
    congr 1
    apply Int32.toBitVec_inj.mp
    rw [i_bv, BitVec.ofNat_toNat]
    simp
  · have : (Int32.ofInt x).toBitVec.toNat &&& 63 ≤ 63 := Nat.and_le_right
    omega
theorem toI_R (x : Int32) : R3 x.toInt := by
  have a := Int32.le_toInt x
  have b := Int32.toInt_lt x
  omega
theorem toL_R (x : Int64) : R6 x.toInt := by
  have a := Int64.le_toInt x
  have b := Int64.toInt_lt x
  omega
section LawOps
variable {own : String} {b : ByteArray} {mL : Nat} {rt : Option FieldType} {isI : Bool} {d a n0 : Nat} {Q : Option Value → AH → Prop} {G : Nat → List (Option Value) → List Value → Nat → AH → Prop} {pc tgt q n : Nat} {ls : List (Option Value)} {st : List Value} {h : AH}
theorem gx_icmp_same (hG : Cx own b mL rt isI d a n0 Q G) {x y o : Int} (hd : decode b pc = .ok (.if_icmp .eq o, 3)) (ht : (pc : Int) + o = (tgt : Int)) (e : x = y) (kt : G tgt ls st n h) : G pc ls (Vi y :: Vi x :: st) n h := by
  subst e
  have e2 : Vi x = Vi ((Int32.ofInt x).toInt) := by unfold Vi; rw [Int32.ofInt_toInt]
  rw [e2]
  exact gx_icmp_eq hG hd ht rfl (toI_R _) (toI_R _) (fun _ => kt) (fun q => absurd rfl q)
theorem gx_lcmp_same (hG : Cx own b mL rt isI d a n0 Q G) {x y : Int} (hd : decode b pc = .ok (.lcmp, 1)) (hq : pc + 1 = q) (e : x = y) (k : G q ls (Vi 0 :: st) n h) : G pc ls (Vj y :: Vj x :: st) n h := by
  subst e
  have e2 : Vj x = Vj ((Int64.ofInt x).toInt) := by unfold Vj; rw [Int64.ofInt_toInt]
  rw [e2]
  refine gx_lcmp hG hd hq (toL_R _) (toL_R _) ?_
  rw [cmp3_eq.mpr rfl]
  exact k
end LawOps
theorem sxR {xs : Nat → Int32} (i : Nat) : R3 ((xs i).toInt) := toI_R _
theorem law_loop {Q : Option Value → AH → Prop} {G : Nat → List (Option Value) → List Value → Nat → AH → Prop} (hG : Cx "WhoSaysOneLaw" code 4 (some .boolean) false 60 102 0 Q G) (hQ : ∀ h, Q (some (Vi 1)) h) {L : Nat} (hL : L ≤ 3072) {xs : Nat → Int32}
    (hSl : ∀ {pc q n : Nat} {ls : List (Option Value)} {st : List Value} {h : AH}, decode code pc = .ok (.arraylength, 1) → pc + 1 = q → G q ls (Vi (L : Int) :: st) n h → G pc ls (Vr (-1) :: st) n h)
    (hSd : ∀ {pc q n : Nat} {ls : List (Option Value)} {st : List Value} {h : AH} {i : Int}, decode code pc = .ok (.iaload, 1) → pc + 1 = q → 0 ≤ i → i < (L : Int) → G q ls (Vi ((xs i.toNat).toInt) :: st) n h → G pc ls (Vi i :: Vr (-1) :: st) n h) :
    ∀ (j : Nat) (i : Int) (w : Mem), Inv w → 0 ≤ i → i ≤ 3078 → (L : Int) - i ≤ 6 * j + 5 → G 18 [some (Vr (-1)), some (Vr 0), some (Vr 76), some (Vi i)] [] 102 (hp w) := by
  intro j
  induction j with
  | zero =>
    intro i w hI h0 h1 h2
    refine gx_iload3 (q := 19) hG d_L_law_18 rfl ?_
    refine gx_aload0 (q := 20) hG d_L_law_19 rfl ?_
    refine hSl (q := 21) d_L_law_20 rfl ?_
    refine gx_bipush (q := 23) hG d_L_law_21 rfl rfl ?_
    refine gx_isub (q := 24) hG d_L_law_23 rfl ?_
    refine gx_icmp_gt (tgt := 1329) (q := 27) hG d_L_law_24 rfl rfl (by omega) (by omega) (fun c24 => ?_) (fun c24 => ?_)
    · refine gx_iconst (q := 1330) hG d_L_law_1329 rfl ?_
      refine gx_zreturn hG d_L_law_1330 rfl rfl (by first | exact bi_01 _ | decide | omega) ?_
      exact hQ _
    · exfalso; omega
  | succ j ih =>
    intro i w hI h0 h1 h2
    have nx : i + 6 ≤ (L : Int) → ∀ w' : Mem, Inv w' → G 1323 [some (Vr (-1)), some (Vr 0), some (Vr 76), some (Vi i)] [] 102 (hp w') := by
      intro hi w' hI'
      refine gx_iinc3 (q := 1326) hG d_L_law_1323 rfl rfl ?_
      refine gx_goto (tgt := 18) hG d_L_law_1326 rfl ?_
      exact ih (i + 6) w' hI' (by omega) (by omega) (by omega)
    obtain ⟨cc, hcc, cc0, cc1⟩ := i_and63 ((xs i.toNat).toInt)
    refine gx_iload3 (q := 19) hG d_L_law_18 rfl ?_
    refine gx_aload0 (q := 20) hG d_L_law_19 rfl ?_
    refine hSl (q := 21) d_L_law_20 rfl ?_
    refine gx_bipush (q := 23) hG d_L_law_21 rfl rfl ?_
    refine gx_isub (q := 24) hG d_L_law_23 rfl ?_
    refine gx_icmp_gt (tgt := 1329) (q := 27) hG d_L_law_24 rfl rfl (by omega) (by omega) (fun c24 => ?_) (fun c24 => ?_)
    · refine gx_iconst (q := 1330) hG d_L_law_1329 rfl ?_
      refine gx_zreturn hG d_L_law_1330 rfl rfl (by first | exact bi_01 _ | decide | omega) ?_
      exact hQ _
    · have nx := nx (by omega)
      refine gx_aload0 (q := 28) hG d_L_law_27 rfl ?_
      refine gx_iload3 (q := 29) hG d_L_law_28 rfl ?_
      refine hSd (q := 30) d_L_law_29 rfl (by omega) (by omega) ?_
      refine gx_bipush (q := 32) hG d_L_law_30 rfl rfl ?_
      refine gx_iand (q := 33) hG (cc) d_L_law_32 rfl (hcc) ?_
      refine gx_tsw (tgt := 1323) hG d_L_law_33 (by omega) (by decide) rfl (fun c33 => ?_) (fun i9 o9 h9 c33 => ?_)
      · exact nx _ hI
      · match i9, h9 with
        | 0, h9 =>
          cases h9
          have c33 : _ = (0 : Int) := c33
          refine ⟨232, rfl, ?_⟩
          refine gx_aload1 (q := 233) hG d_L_law_232 rfl ?_
          refine gx_aload0 (q := 234) hG d_L_law_233 rfl ?_
          refine gx_iload3 (q := 235) hG d_L_law_234 rfl ?_
          refine gx_iconst (q := 236) hG d_L_law_235 rfl ?_
          refine gx_iadd (q := 237) hG d_L_law_236 rfl ?_
          refine hSd (q := 238) d_L_law_237 rfl (by omega) (by omega) ?_
          refine gx_aload0 (q := 239) hG d_L_law_238 rfl ?_
          refine gx_iload3 (q := 240) hG d_L_law_239 rfl ?_
          refine gx_iconst (q := 241) hG d_L_law_240 rfl ?_
          refine gx_iadd (q := 242) hG d_L_law_241 rfl ?_
          refine hSd (q := 243) d_L_law_242 rfl (by omega) (by omega) ?_
          refine gw_V2I (q := 246) hG l_L_13 c_X_row (ev_X_row hI.1 hI.2.2 (sxR _) (sxR _)) hpX rfl (by decide) (Nat.le_of_ble_eq_true rfl) d_L_law_243 rfl (by decide) (fun z243 w243 h243 => ?_)
          refine gx_aload2 (q := 247) hG d_L_law_246 rfl ?_
          refine gx_aload0 (q := 248) hG d_L_law_247 rfl ?_
          refine gx_iload3 (q := 249) hG d_L_law_248 rfl ?_
          refine gx_iconst (q := 250) hG d_L_law_249 rfl ?_
          refine gx_iadd (q := 251) hG d_L_law_250 rfl ?_
          refine hSd (q := 252) d_L_law_251 rfl (by omega) (by omega) ?_
          refine gx_aload0 (q := 253) hG d_L_law_252 rfl ?_
          refine gx_iload3 (q := 254) hG d_L_law_253 rfl ?_
          refine gx_iconst (q := 255) hG d_L_law_254 rfl ?_
          refine gx_iadd (q := 256) hG d_L_law_255 rfl ?_
          refine hSd (q := 257) d_L_law_256 rfl (by omega) (by omega) ?_
          refine gw_V2I (q := 260) hG l_L_17 c_M_row (ev_M_row (inv_mid hI h243).2 (sxR _) (sxR _)) hpM rfl (by decide) (Nat.le_of_ble_eq_true rfl) d_L_law_257 rfl (by decide) (fun z257 w257 h257 => ?_)
          rw [(inv_mid hI h243).1] at h257
          obtain ⟨ez, hI2⟩ := inv_end hI (OK.row hI.1) h243 h257
          exact gx_icmp_same (tgt := 1323) hG d_L_law_260 rfl ez (nx _ hI2)
        | 1, h9 =>
          cases h9
          have c33 : _ = (1 : Int) := c33
          refine ⟨265, rfl, ?_⟩
          refine gx_aload1 (q := 266) hG d_L_law_265 rfl ?_
          refine gx_aload0 (q := 267) hG d_L_law_266 rfl ?_
          refine gx_iload3 (q := 268) hG d_L_law_267 rfl ?_
          refine gx_iconst (q := 269) hG d_L_law_268 rfl ?_
          refine gx_iadd (q := 270) hG d_L_law_269 rfl ?_
          refine hSd (q := 271) d_L_law_270 rfl (by omega) (by omega) ?_
          refine gx_aload0 (q := 272) hG d_L_law_271 rfl ?_
          refine gx_iload3 (q := 273) hG d_L_law_272 rfl ?_
          refine gx_iconst (q := 274) hG d_L_law_273 rfl ?_
          refine gx_iadd (q := 275) hG d_L_law_274 rfl ?_
          refine hSd (q := 276) d_L_law_275 rfl (by omega) (by omega) ?_
          refine gx_aload0 (q := 277) hG d_L_law_276 rfl ?_
          refine gx_iload3 (q := 278) hG d_L_law_277 rfl ?_
          refine gx_iconst (q := 279) hG d_L_law_278 rfl ?_
          refine gx_iadd (q := 280) hG d_L_law_279 rfl ?_
          refine hSd (q := 281) d_L_law_280 rfl (by omega) (by omega) ?_
          refine gw_V3I (q := 284) hG l_L_18 c_X_lay (ev_X_lay hI.1 hI.2.2 (sxR _) (sxR _)) hpX rfl (by decide) (Nat.le_of_ble_eq_true rfl) d_L_law_281 rfl (by decide) (fun z281 w281 h281 => ?_)
          refine gx_aload2 (q := 285) hG d_L_law_284 rfl ?_
          refine gx_aload0 (q := 286) hG d_L_law_285 rfl ?_
          refine gx_iload3 (q := 287) hG d_L_law_286 rfl ?_
          refine gx_iconst (q := 288) hG d_L_law_287 rfl ?_
          refine gx_iadd (q := 289) hG d_L_law_288 rfl ?_
          refine hSd (q := 290) d_L_law_289 rfl (by omega) (by omega) ?_
          refine gx_aload0 (q := 291) hG d_L_law_290 rfl ?_
          refine gx_iload3 (q := 292) hG d_L_law_291 rfl ?_
          refine gx_iconst (q := 293) hG d_L_law_292 rfl ?_
          refine gx_iadd (q := 294) hG d_L_law_293 rfl ?_
          refine hSd (q := 295) d_L_law_294 rfl (by omega) (by omega) ?_
          refine gx_aload0 (q := 296) hG d_L_law_295 rfl ?_
          refine gx_iload3 (q := 297) hG d_L_law_296 rfl ?_
          refine gx_iconst (q := 298) hG d_L_law_297 rfl ?_
          refine gx_iadd (q := 299) hG d_L_law_298 rfl ?_
          refine hSd (q := 300) d_L_law_299 rfl (by omega) (by omega) ?_
          refine gw_V3I (q := 303) hG l_L_22 c_M_lay (ev_M_lay (inv_mid hI h281).2 (sxR _) (sxR _)) hpM rfl (by decide) (Nat.le_of_ble_eq_true rfl) d_L_law_300 rfl (by decide) (fun z300 w300 h300 => ?_)
          rw [(inv_mid hI h281).1] at h300
          obtain ⟨ez, hI2⟩ := inv_end hI (OK.lay hI.1 (sxR _)) h281 h300
          exact gx_icmp_same (tgt := 1323) hG d_L_law_303 rfl ez (nx _ hI2)
        | 2, h9 =>
          cases h9
          have c33 : _ = (2 : Int) := c33
          refine ⟨308, rfl, ?_⟩
          refine gx_aload1 (q := 309) hG d_L_law_308 rfl ?_
          refine gx_aload0 (q := 310) hG d_L_law_309 rfl ?_
          refine gx_iload3 (q := 311) hG d_L_law_310 rfl ?_
          refine gx_iconst (q := 312) hG d_L_law_311 rfl ?_
          refine gx_iadd (q := 313) hG d_L_law_312 rfl ?_
          refine hSd (q := 314) d_L_law_313 rfl (by omega) (by omega) ?_
          refine gx_aload0 (q := 315) hG d_L_law_314 rfl ?_
          refine gx_iload3 (q := 316) hG d_L_law_315 rfl ?_
          refine gx_iconst (q := 317) hG d_L_law_316 rfl ?_
          refine gx_iadd (q := 318) hG d_L_law_317 rfl ?_
          refine hSd (q := 319) d_L_law_318 rfl (by omega) (by omega) ?_
          refine gw_V2I (q := 322) hG l_L_23 c_X_at (ev_X_at hI.1 hI.2.2 (sxR _) (sxR _)) hpX rfl (by decide) (Nat.le_of_ble_eq_true rfl) d_L_law_319 rfl (by decide) (fun z319 w319 h319 => ?_)
          refine gx_aload2 (q := 323) hG d_L_law_322 rfl ?_
          refine gx_aload0 (q := 324) hG d_L_law_323 rfl ?_
          refine gx_iload3 (q := 325) hG d_L_law_324 rfl ?_
          refine gx_iconst (q := 326) hG d_L_law_325 rfl ?_
          refine gx_iadd (q := 327) hG d_L_law_326 rfl ?_
          refine hSd (q := 328) d_L_law_327 rfl (by omega) (by omega) ?_
          refine gx_aload0 (q := 329) hG d_L_law_328 rfl ?_
          refine gx_iload3 (q := 330) hG d_L_law_329 rfl ?_
          refine gx_iconst (q := 331) hG d_L_law_330 rfl ?_
          refine gx_iadd (q := 332) hG d_L_law_331 rfl ?_
          refine hSd (q := 333) d_L_law_332 rfl (by omega) (by omega) ?_
          refine gw_V2I (q := 336) hG l_L_26 c_M_at (ev_M_at (inv_mid hI h319).2 (sxR _) (sxR _)) hpM rfl (by decide) (Nat.le_of_ble_eq_true rfl) d_L_law_333 rfl (by decide) (fun z333 w333 h333 => ?_)
          rw [(inv_mid hI h319).1] at h333
          obtain ⟨ez, hI2⟩ := inv_end hI (OK.at' hI.1) h319 h333
          exact gx_icmp_same (tgt := 1323) hG d_L_law_336 rfl ez (nx _ hI2)
        | 3, h9 =>
          cases h9
          have c33 : _ = (3 : Int) := c33
          refine ⟨341, rfl, ?_⟩
          refine gx_aload1 (q := 342) hG d_L_law_341 rfl ?_
          refine gx_aload0 (q := 343) hG d_L_law_342 rfl ?_
          refine gx_iload3 (q := 344) hG d_L_law_343 rfl ?_
          refine gx_iconst (q := 345) hG d_L_law_344 rfl ?_
          refine gx_iadd (q := 346) hG d_L_law_345 rfl ?_
          refine hSd (q := 347) d_L_law_346 rfl (by omega) (by omega) ?_
          refine gw_V1I (q := 350) hG l_L_27 c_X_tear (ev_X_tear hI.1 hI.2.2 (sxR _)) hpX rfl (by decide) (Nat.le_of_ble_eq_true rfl) d_L_law_347 rfl (by decide) (fun z347 w347 h347 => ?_)
          refine gx_aload2 (q := 351) hG d_L_law_350 rfl ?_
          refine gx_aload0 (q := 352) hG d_L_law_351 rfl ?_
          refine gx_iload3 (q := 353) hG d_L_law_352 rfl ?_
          refine gx_iconst (q := 354) hG d_L_law_353 rfl ?_
          refine gx_iadd (q := 355) hG d_L_law_354 rfl ?_
          refine hSd (q := 356) d_L_law_355 rfl (by omega) (by omega) ?_
          refine gw_V1I (q := 359) hG l_L_31 c_M_tear (ev_M_tear (inv_mid hI h347).2 (sxR _)) hpM rfl (by decide) (Nat.le_of_ble_eq_true rfl) d_L_law_356 rfl (by decide) (fun z356 w356 h356 => ?_)
          rw [(inv_mid hI h347).1] at h356
          obtain ⟨ez, hI2⟩ := inv_end hI (OK.tear hI.1) h347 h356
          exact gx_icmp_same (tgt := 1323) hG d_L_law_359 rfl ez (nx _ hI2)
        | 4, h9 =>
          cases h9
          have c33 : _ = (4 : Int) := c33
          refine ⟨364, rfl, ?_⟩
          refine gx_aload1 (q := 365) hG d_L_law_364 rfl ?_
          refine gx_aload0 (q := 366) hG d_L_law_365 rfl ?_
          refine gx_iload3 (q := 367) hG d_L_law_366 rfl ?_
          refine gx_iconst (q := 368) hG d_L_law_367 rfl ?_
          refine gx_iadd (q := 369) hG d_L_law_368 rfl ?_
          refine hSd (q := 370) d_L_law_369 rfl (by omega) (by omega) ?_
          refine gx_aload0 (q := 371) hG d_L_law_370 rfl ?_
          refine gx_iload3 (q := 372) hG d_L_law_371 rfl ?_
          refine gx_iconst (q := 373) hG d_L_law_372 rfl ?_
          refine gx_iadd (q := 374) hG d_L_law_373 rfl ?_
          refine hSd (q := 375) d_L_law_374 rfl (by omega) (by omega) ?_
          refine gx_aload0 (q := 376) hG d_L_law_375 rfl ?_
          refine gx_iload3 (q := 377) hG d_L_law_376 rfl ?_
          refine gx_iconst (q := 378) hG d_L_law_377 rfl ?_
          refine gx_iadd (q := 379) hG d_L_law_378 rfl ?_
          refine hSd (q := 380) d_L_law_379 rfl (by omega) (by omega) ?_
          refine gx_aload0 (q := 381) hG d_L_law_380 rfl ?_
          refine gx_iload3 (q := 382) hG d_L_law_381 rfl ?_
          refine gx_iconst (q := 383) hG d_L_law_382 rfl ?_
          refine gx_iadd (q := 384) hG d_L_law_383 rfl ?_
          refine hSd (q := 385) d_L_law_384 rfl (by omega) (by omega) ?_
          refine gx_aload0 (q := 386) hG d_L_law_385 rfl ?_
          refine gx_iload3 (q := 387) hG d_L_law_386 rfl ?_
          refine gx_iconst (q := 388) hG d_L_law_387 rfl ?_
          refine gx_iadd (q := 389) hG d_L_law_388 rfl ?_
          refine hSd (q := 390) d_L_law_389 rfl (by omega) (by omega) ?_
          refine gw_V5I (q := 393) hG l_L_32 c_X_copy (ev_X_copy hI.1 hI.2.2 (sxR _) (sxR _) (sxR _) (sxR _) (sxR _)) hpX rfl (by decide) (Nat.le_of_ble_eq_true rfl) d_L_law_390 rfl (by decide) (fun z390 w390 h390 => ?_)
          refine gx_aload2 (q := 394) hG d_L_law_393 rfl ?_
          refine gx_aload0 (q := 395) hG d_L_law_394 rfl ?_
          refine gx_iload3 (q := 396) hG d_L_law_395 rfl ?_
          refine gx_iconst (q := 397) hG d_L_law_396 rfl ?_
          refine gx_iadd (q := 398) hG d_L_law_397 rfl ?_
          refine hSd (q := 399) d_L_law_398 rfl (by omega) (by omega) ?_
          refine gx_aload0 (q := 400) hG d_L_law_399 rfl ?_
          refine gx_iload3 (q := 401) hG d_L_law_400 rfl ?_
          refine gx_iconst (q := 402) hG d_L_law_401 rfl ?_
          refine gx_iadd (q := 403) hG d_L_law_402 rfl ?_
          refine hSd (q := 404) d_L_law_403 rfl (by omega) (by omega) ?_
          refine gx_aload0 (q := 405) hG d_L_law_404 rfl ?_
          refine gx_iload3 (q := 406) hG d_L_law_405 rfl ?_
          refine gx_iconst (q := 407) hG d_L_law_406 rfl ?_
          refine gx_iadd (q := 408) hG d_L_law_407 rfl ?_
          refine hSd (q := 409) d_L_law_408 rfl (by omega) (by omega) ?_
          refine gx_aload0 (q := 410) hG d_L_law_409 rfl ?_
          refine gx_iload3 (q := 411) hG d_L_law_410 rfl ?_
          refine gx_iconst (q := 412) hG d_L_law_411 rfl ?_
          refine gx_iadd (q := 413) hG d_L_law_412 rfl ?_
          refine hSd (q := 414) d_L_law_413 rfl (by omega) (by omega) ?_
          refine gx_aload0 (q := 415) hG d_L_law_414 rfl ?_
          refine gx_iload3 (q := 416) hG d_L_law_415 rfl ?_
          refine gx_iconst (q := 417) hG d_L_law_416 rfl ?_
          refine gx_iadd (q := 418) hG d_L_law_417 rfl ?_
          refine hSd (q := 419) d_L_law_418 rfl (by omega) (by omega) ?_
          refine gw_V5I (q := 422) hG l_L_36 c_M_copy (ev_M_copy (inv_mid hI h390).2 (sxR _) (sxR _) (sxR _) (sxR _) (sxR _)) hpM rfl (by decide) (Nat.le_of_ble_eq_true rfl) d_L_law_419 rfl (by decide) (fun z419 w419 h419 => ?_)
          rw [(inv_mid hI h390).1] at h419
          obtain ⟨ez, hI2⟩ := inv_end hI (OK.copy hI.1) h390 h419
          exact gx_icmp_same (tgt := 1323) hG d_L_law_422 rfl ez (nx _ hI2)
        | 5, h9 =>
          cases h9
          have c33 : _ = (5 : Int) := c33
          refine ⟨427, rfl, ?_⟩
          refine gx_aload1 (q := 428) hG d_L_law_427 rfl ?_
          refine gx_aload0 (q := 429) hG d_L_law_428 rfl ?_
          refine gx_iload3 (q := 430) hG d_L_law_429 rfl ?_
          refine gx_iconst (q := 431) hG d_L_law_430 rfl ?_
          refine gx_iadd (q := 432) hG d_L_law_431 rfl ?_
          refine hSd (q := 433) d_L_law_432 rfl (by omega) (by omega) ?_
          refine gw_V1I (q := 436) hG l_L_37 c_X_mean (ev_X_mean hI.1 hI.2.2 (sxR _)) hpX rfl (by decide) (Nat.le_of_ble_eq_true rfl) d_L_law_433 rfl (by decide) (fun z433 w433 h433 => ?_)
          refine gx_aload2 (q := 437) hG d_L_law_436 rfl ?_
          refine gx_aload0 (q := 438) hG d_L_law_437 rfl ?_
          refine gx_iload3 (q := 439) hG d_L_law_438 rfl ?_
          refine gx_iconst (q := 440) hG d_L_law_439 rfl ?_
          refine gx_iadd (q := 441) hG d_L_law_440 rfl ?_
          refine hSd (q := 442) d_L_law_441 rfl (by omega) (by omega) ?_
          refine gw_V1I (q := 445) hG l_L_40 c_M_mean (ev_M_mean (inv_mid hI h433).2 (sxR _)) hpM rfl (by decide) (Nat.le_of_ble_eq_true rfl) d_L_law_442 rfl (by decide) (fun z442 w442 h442 => ?_)
          rw [(inv_mid hI h433).1] at h442
          obtain ⟨ez, hI2⟩ := inv_end hI (OK.mean hI.1) h433 h442
          exact gx_icmp_same (tgt := 1323) hG d_L_law_445 rfl ez (nx _ hI2)
        | 6, h9 =>
          cases h9
          have c33 : _ = (6 : Int) := c33
          refine ⟨450, rfl, ?_⟩
          refine gx_aload1 (q := 451) hG d_L_law_450 rfl ?_
          refine gx_aload0 (q := 452) hG d_L_law_451 rfl ?_
          refine gx_iload3 (q := 453) hG d_L_law_452 rfl ?_
          refine gx_iconst (q := 454) hG d_L_law_453 rfl ?_
          refine gx_iadd (q := 455) hG d_L_law_454 rfl ?_
          refine hSd (q := 456) d_L_law_455 rfl (by omega) (by omega) ?_
          refine gx_aload0 (q := 457) hG d_L_law_456 rfl ?_
          refine gx_iload3 (q := 458) hG d_L_law_457 rfl ?_
          refine gx_iconst (q := 459) hG d_L_law_458 rfl ?_
          refine gx_iadd (q := 460) hG d_L_law_459 rfl ?_
          refine hSd (q := 461) d_L_law_460 rfl (by omega) (by omega) ?_
          refine gw_V2I (q := 464) hG l_L_41 c_X_text (ev_X_text hI.1 hI.2.2 (sxR _) (sxR _)) hpX rfl (by decide) (Nat.le_of_ble_eq_true rfl) d_L_law_461 rfl (by decide) (fun z461 w461 h461 => ?_)
          refine gx_aload2 (q := 465) hG d_L_law_464 rfl ?_
          refine gx_aload0 (q := 466) hG d_L_law_465 rfl ?_
          refine gx_iload3 (q := 467) hG d_L_law_466 rfl ?_
          refine gx_iconst (q := 468) hG d_L_law_467 rfl ?_
          refine gx_iadd (q := 469) hG d_L_law_468 rfl ?_
          refine hSd (q := 470) d_L_law_469 rfl (by omega) (by omega) ?_
          refine gx_aload0 (q := 471) hG d_L_law_470 rfl ?_
          refine gx_iload3 (q := 472) hG d_L_law_471 rfl ?_
          refine gx_iconst (q := 473) hG d_L_law_472 rfl ?_
          refine gx_iadd (q := 474) hG d_L_law_473 rfl ?_
          refine hSd (q := 475) d_L_law_474 rfl (by omega) (by omega) ?_
          refine gw_V2I (q := 478) hG l_L_44 c_M_text (ev_M_text (inv_mid hI h461).2 (sxR _) (sxR _)) hpM rfl (by decide) (Nat.le_of_ble_eq_true rfl) d_L_law_475 rfl (by decide) (fun z475 w475 h475 => ?_)
          rw [(inv_mid hI h461).1] at h475
          obtain ⟨ez, hI2⟩ := inv_end hI (OK.text hI.1) h461 h475
          exact gx_icmp_same (tgt := 1323) hG d_L_law_478 rfl ez (nx _ hI2)
        | 7, h9 =>
          cases h9
          have c33 : _ = (7 : Int) := c33
          refine ⟨483, rfl, ?_⟩
          refine gx_aload1 (q := 484) hG d_L_law_483 rfl ?_
          refine gx_aload0 (q := 485) hG d_L_law_484 rfl ?_
          refine gx_iload3 (q := 486) hG d_L_law_485 rfl ?_
          refine gx_iconst (q := 487) hG d_L_law_486 rfl ?_
          refine gx_iadd (q := 488) hG d_L_law_487 rfl ?_
          refine hSd (q := 489) d_L_law_488 rfl (by omega) (by omega) ?_
          refine gx_aload0 (q := 490) hG d_L_law_489 rfl ?_
          refine gx_iload3 (q := 491) hG d_L_law_490 rfl ?_
          refine gx_iconst (q := 492) hG d_L_law_491 rfl ?_
          refine gx_iadd (q := 493) hG d_L_law_492 rfl ?_
          refine hSd (q := 494) d_L_law_493 rfl (by omega) (by omega) ?_
          refine gx_aload0 (q := 495) hG d_L_law_494 rfl ?_
          refine gx_iload3 (q := 496) hG d_L_law_495 rfl ?_
          refine gx_iconst (q := 497) hG d_L_law_496 rfl ?_
          refine gx_iadd (q := 498) hG d_L_law_497 rfl ?_
          refine hSd (q := 499) d_L_law_498 rfl (by omega) (by omega) ?_
          refine gw_V3I (q := 502) hG l_L_45 c_X_put (ev_X_put hI.1 hI.2.2 (sxR _) (sxR _)) hpX rfl (by decide) (Nat.le_of_ble_eq_true rfl) d_L_law_499 rfl (by decide) (fun z499 w499 h499 => ?_)
          refine gx_aload2 (q := 503) hG d_L_law_502 rfl ?_
          refine gx_aload0 (q := 504) hG d_L_law_503 rfl ?_
          refine gx_iload3 (q := 505) hG d_L_law_504 rfl ?_
          refine gx_iconst (q := 506) hG d_L_law_505 rfl ?_
          refine gx_iadd (q := 507) hG d_L_law_506 rfl ?_
          refine hSd (q := 508) d_L_law_507 rfl (by omega) (by omega) ?_
          refine gx_aload0 (q := 509) hG d_L_law_508 rfl ?_
          refine gx_iload3 (q := 510) hG d_L_law_509 rfl ?_
          refine gx_iconst (q := 511) hG d_L_law_510 rfl ?_
          refine gx_iadd (q := 512) hG d_L_law_511 rfl ?_
          refine hSd (q := 513) d_L_law_512 rfl (by omega) (by omega) ?_
          refine gx_aload0 (q := 514) hG d_L_law_513 rfl ?_
          refine gx_iload3 (q := 515) hG d_L_law_514 rfl ?_
          refine gx_iconst (q := 516) hG d_L_law_515 rfl ?_
          refine gx_iadd (q := 517) hG d_L_law_516 rfl ?_
          refine hSd (q := 518) d_L_law_517 rfl (by omega) (by omega) ?_
          refine gw_V3I (q := 521) hG l_L_48 c_M_put (ev_M_put (inv_mid hI h499).2 (sxR _) (sxR _)) hpM rfl (by decide) (Nat.le_of_ble_eq_true rfl) d_L_law_518 rfl (by decide) (fun z518 w518 h518 => ?_)
          rw [(inv_mid hI h499).1] at h518
          obtain ⟨ez, hI2⟩ := inv_end hI (OK.put hI.1) h499 h518
          exact gx_icmp_same (tgt := 1323) hG d_L_law_521 rfl ez (nx _ hI2)
        | 8, h9 =>
          cases h9
          have c33 : _ = (8 : Int) := c33
          refine ⟨526, rfl, ?_⟩
          refine gx_aload1 (q := 527) hG d_L_law_526 rfl ?_
          refine gx_aload0 (q := 528) hG d_L_law_527 rfl ?_
          refine gx_iload3 (q := 529) hG d_L_law_528 rfl ?_
          refine gx_iconst (q := 530) hG d_L_law_529 rfl ?_
          refine gx_iadd (q := 531) hG d_L_law_530 rfl ?_
          refine hSd (q := 532) d_L_law_531 rfl (by omega) (by omega) ?_
          refine gw_V1I (q := 535) hG l_L_49 c_X_fault (ev_X_fault hI.1 hI.2.2 (sxR _)) hpX rfl (by decide) (Nat.le_of_ble_eq_true rfl) d_L_law_532 rfl (by decide) (fun z532 w532 h532 => ?_)
          refine gx_aload2 (q := 536) hG d_L_law_535 rfl ?_
          refine gx_aload0 (q := 537) hG d_L_law_536 rfl ?_
          refine gx_iload3 (q := 538) hG d_L_law_537 rfl ?_
          refine gx_iconst (q := 539) hG d_L_law_538 rfl ?_
          refine gx_iadd (q := 540) hG d_L_law_539 rfl ?_
          refine hSd (q := 541) d_L_law_540 rfl (by omega) (by omega) ?_
          refine gw_V1I (q := 544) hG l_L_52 c_M_fault (ev_M_fault (inv_mid hI h532).2 (sxR _)) hpM rfl (by decide) (Nat.le_of_ble_eq_true rfl) d_L_law_541 rfl (by decide) (fun z541 w541 h541 => ?_)
          rw [(inv_mid hI h532).1] at h541
          obtain ⟨ez, hI2⟩ := inv_end hI (OK.fault hI.1) h532 h541
          exact gx_icmp_same (tgt := 1323) hG d_L_law_544 rfl ez (nx _ hI2)
        | 9, h9 =>
          cases h9
          have c33 : _ = (9 : Int) := c33
          refine ⟨549, rfl, ?_⟩
          refine gx_aload1 (q := 550) hG d_L_law_549 rfl ?_
          refine gx_aload0 (q := 551) hG d_L_law_550 rfl ?_
          refine gx_iload3 (q := 552) hG d_L_law_551 rfl ?_
          refine gx_iconst (q := 553) hG d_L_law_552 rfl ?_
          refine gx_iadd (q := 554) hG d_L_law_553 rfl ?_
          refine hSd (q := 555) d_L_law_554 rfl (by omega) (by omega) ?_
          refine gw_V1I (q := 558) hG l_L_53 c_X_game (ev_X_game hI.1 hI.2.2 (sxR _)) hpX rfl (by decide) (Nat.le_of_ble_eq_true rfl) d_L_law_555 rfl (by decide) (fun z555 w555 h555 => ?_)
          refine gx_aload2 (q := 559) hG d_L_law_558 rfl ?_
          refine gx_aload0 (q := 560) hG d_L_law_559 rfl ?_
          refine gx_iload3 (q := 561) hG d_L_law_560 rfl ?_
          refine gx_iconst (q := 562) hG d_L_law_561 rfl ?_
          refine gx_iadd (q := 563) hG d_L_law_562 rfl ?_
          refine hSd (q := 564) d_L_law_563 rfl (by omega) (by omega) ?_
          refine gw_V1I (q := 567) hG l_L_56 c_M_game (ev_M_game (inv_mid hI h555).2 (sxR _)) hpM rfl (by decide) (Nat.le_of_ble_eq_true rfl) d_L_law_564 rfl (by decide) (fun z564 w564 h564 => ?_)
          rw [(inv_mid hI h555).1] at h564
          obtain ⟨ez, hI2⟩ := inv_end hI (OK.game hI.1) h555 h564
          exact gx_icmp_same (tgt := 1323) hG d_L_law_567 rfl ez (nx _ hI2)
        | 10, h9 =>
          cases h9
          have c33 : _ = (10 : Int) := c33
          refine ⟨572, rfl, ?_⟩
          refine gx_aload1 (q := 573) hG d_L_law_572 rfl ?_
          refine gw_V0X (q := 576) hG l_L_57 c_X_law (ev_X_law) hpX rfl (by decide) (Nat.le_of_ble_eq_true rfl) d_L_law_573 rfl (by decide) ?_
          refine gx_aload2 (q := 577) hG d_L_law_576 rfl ?_
          refine gw_V0X (q := 580) hG l_L_61 c_M_law (ev_M_law) hpM rfl (by decide) (Nat.le_of_ble_eq_true rfl) d_L_law_577 rfl (by decide) ?_
          exact gx_icmp_same (tgt := 1323) hG d_L_law_580 rfl (by rw [hI.2.1]) (nx _ hI)
        | 11, h9 =>
          cases h9
          have c33 : _ = (11 : Int) := c33
          refine ⟨585, rfl, ?_⟩
          refine gx_aload1 (q := 586) hG d_L_law_585 rfl ?_
          refine gx_aload0 (q := 587) hG d_L_law_586 rfl ?_
          refine gx_iload3 (q := 588) hG d_L_law_587 rfl ?_
          refine gx_iconst (q := 589) hG d_L_law_588 rfl ?_
          refine gx_iadd (q := 590) hG d_L_law_589 rfl ?_
          refine hSd (q := 591) d_L_law_590 rfl (by omega) (by omega) ?_
          refine gw_V1X (q := 594) hG l_L_62 c_X_player (ev_X_player hI.1 (sxR _)) hpX rfl (by decide) (Nat.le_of_ble_eq_true rfl) d_L_law_591 rfl (by decide) ?_
          refine gx_aload2 (q := 595) hG d_L_law_594 rfl ?_
          refine gx_aload0 (q := 596) hG d_L_law_595 rfl ?_
          refine gx_iload3 (q := 597) hG d_L_law_596 rfl ?_
          refine gx_iconst (q := 598) hG d_L_law_597 rfl ?_
          refine gx_iadd (q := 599) hG d_L_law_598 rfl ?_
          refine hSd (q := 600) d_L_law_599 rfl (by omega) (by omega) ?_
          refine gw_V1X (q := 603) hG l_L_65 c_M_player (ev_M_player (inv_m hI) (sxR _)) hpM rfl (by decide) (Nat.le_of_ble_eq_true rfl) d_L_law_600 rfl (by decide) ?_
          exact gx_icmp_same (tgt := 1323) hG d_L_law_603 rfl (by rw [hI.2.1]) (nx _ hI)
        | 12, h9 =>
          cases h9
          have c33 : _ = (12 : Int) := c33
          refine ⟨608, rfl, ?_⟩
          refine gx_aload1 (q := 609) hG d_L_law_608 rfl ?_
          refine gx_aload0 (q := 610) hG d_L_law_609 rfl ?_
          refine gx_iload3 (q := 611) hG d_L_law_610 rfl ?_
          refine gx_iconst (q := 612) hG d_L_law_611 rfl ?_
          refine gx_iadd (q := 613) hG d_L_law_612 rfl ?_
          refine hSd (q := 614) d_L_law_613 rfl (by omega) (by omega) ?_
          refine gx_aload0 (q := 615) hG d_L_law_614 rfl ?_
          refine gx_iload3 (q := 616) hG d_L_law_615 rfl ?_
          refine gx_iconst (q := 617) hG d_L_law_616 rfl ?_
          refine gx_iadd (q := 618) hG d_L_law_617 rfl ?_
          refine hSd (q := 619) d_L_law_618 rfl (by omega) (by omega) ?_
          refine gw_V2I (q := 622) hG l_L_66 c_X_mark (ev_X_mark hI.1 hI.2.2 (sxR _) (sxR _)) hpX rfl (by decide) (Nat.le_of_ble_eq_true rfl) d_L_law_619 rfl (by decide) (fun z619 w619 h619 => ?_)
          refine gx_aload2 (q := 623) hG d_L_law_622 rfl ?_
          refine gx_aload0 (q := 624) hG d_L_law_623 rfl ?_
          refine gx_iload3 (q := 625) hG d_L_law_624 rfl ?_
          refine gx_iconst (q := 626) hG d_L_law_625 rfl ?_
          refine gx_iadd (q := 627) hG d_L_law_626 rfl ?_
          refine hSd (q := 628) d_L_law_627 rfl (by omega) (by omega) ?_
          refine gx_aload0 (q := 629) hG d_L_law_628 rfl ?_
          refine gx_iload3 (q := 630) hG d_L_law_629 rfl ?_
          refine gx_iconst (q := 631) hG d_L_law_630 rfl ?_
          refine gx_iadd (q := 632) hG d_L_law_631 rfl ?_
          refine hSd (q := 633) d_L_law_632 rfl (by omega) (by omega) ?_
          refine gw_V2I (q := 636) hG l_L_69 c_M_mark (ev_M_mark (inv_mid hI h619).2 (sxR _) (sxR _)) hpM rfl (by decide) (Nat.le_of_ble_eq_true rfl) d_L_law_633 rfl (by decide) (fun z633 w633 h633 => ?_)
          rw [(inv_mid hI h619).1] at h633
          obtain ⟨ez, hI2⟩ := inv_end hI (OK.mark hI.1) h619 h633
          exact gx_icmp_same (tgt := 1323) hG d_L_law_636 rfl ez (nx _ hI2)
        | 13, h9 =>
          cases h9
          have c33 : _ = (13 : Int) := c33
          refine ⟨641, rfl, ?_⟩
          refine gx_aload1 (q := 642) hG d_L_law_641 rfl ?_
          refine gx_aload0 (q := 643) hG d_L_law_642 rfl ?_
          refine gx_iload3 (q := 644) hG d_L_law_643 rfl ?_
          refine gx_iconst (q := 645) hG d_L_law_644 rfl ?_
          refine gx_iadd (q := 646) hG d_L_law_645 rfl ?_
          refine hSd (q := 647) d_L_law_646 rfl (by omega) (by omega) ?_
          refine gw_V1I (q := 650) hG l_L_70 c_X_say (ev_X_say hI.1 hI.2.2 (sxR _)) hpX rfl (by decide) (Nat.le_of_ble_eq_true rfl) d_L_law_647 rfl (by decide) (fun z647 w647 h647 => ?_)
          refine gx_aload2 (q := 651) hG d_L_law_650 rfl ?_
          refine gx_aload0 (q := 652) hG d_L_law_651 rfl ?_
          refine gx_iload3 (q := 653) hG d_L_law_652 rfl ?_
          refine gx_iconst (q := 654) hG d_L_law_653 rfl ?_
          refine gx_iadd (q := 655) hG d_L_law_654 rfl ?_
          refine hSd (q := 656) d_L_law_655 rfl (by omega) (by omega) ?_
          refine gw_V1I (q := 659) hG l_L_73 c_M_say (ev_M_say (inv_mid hI h647).2 (sxR _)) hpM rfl (by decide) (Nat.le_of_ble_eq_true rfl) d_L_law_656 rfl (by decide) (fun z656 w656 h656 => ?_)
          rw [(inv_mid hI h647).1] at h656
          obtain ⟨ez, hI2⟩ := inv_end hI (OK.say' hI.1) h647 h656
          exact gx_icmp_same (tgt := 1323) hG d_L_law_659 rfl ez (nx _ hI2)
        | 14, h9 =>
          cases h9
          have c33 : _ = (14 : Int) := c33
          refine ⟨664, rfl, ?_⟩
          refine gx_aload1 (q := 665) hG d_L_law_664 rfl ?_
          refine gx_aload0 (q := 666) hG d_L_law_665 rfl ?_
          refine gx_iload3 (q := 667) hG d_L_law_666 rfl ?_
          refine gx_iconst (q := 668) hG d_L_law_667 rfl ?_
          refine gx_iadd (q := 669) hG d_L_law_668 rfl ?_
          refine hSd (q := 670) d_L_law_669 rfl (by omega) (by omega) ?_
          refine gw_V1X (q := 673) hG l_L_74 c_X_may (ev_X_may hI.1 hI.2.2 (sxR _)) hpX rfl (by decide) (Nat.le_of_ble_eq_true rfl) d_L_law_670 rfl (by decide) ?_
          refine gx_aload2 (q := 674) hG d_L_law_673 rfl ?_
          refine gx_aload0 (q := 675) hG d_L_law_674 rfl ?_
          refine gx_iload3 (q := 676) hG d_L_law_675 rfl ?_
          refine gx_iconst (q := 677) hG d_L_law_676 rfl ?_
          refine gx_iadd (q := 678) hG d_L_law_677 rfl ?_
          refine hSd (q := 679) d_L_law_678 rfl (by omega) (by omega) ?_
          refine gw_V1I (q := 682) hG l_L_77 c_M_may (ev_M_may (inv_m hI) (sxR _)) hpM rfl (by decide) (Nat.le_of_ble_eq_true rfl) d_L_law_679 rfl (by decide) (fun z679 w679 h679 => ?_)
          exact gx_icmp_same (tgt := 1323) hG d_L_law_682 rfl (by rw [h679.1, hI.2.1]) (nx _ (inv_sm hI h679.2))
        | 15, h9 =>
          cases h9
          have c33 : _ = (15 : Int) := c33
          refine ⟨687, rfl, ?_⟩
          refine gx_aload1 (q := 688) hG d_L_law_687 rfl ?_
          refine gx_aload0 (q := 689) hG d_L_law_688 rfl ?_
          refine gx_iload3 (q := 690) hG d_L_law_689 rfl ?_
          refine gx_iconst (q := 691) hG d_L_law_690 rfl ?_
          refine gx_iadd (q := 692) hG d_L_law_691 rfl ?_
          refine hSd (q := 693) d_L_law_692 rfl (by omega) (by omega) ?_
          refine gw_V1I (q := 696) hG l_L_78 c_X_said (ev_X_said hI.1 hI.2.2 (sxR _)) hpX rfl (by decide) (Nat.le_of_ble_eq_true rfl) d_L_law_693 rfl (by decide) (fun z693 w693 h693 => ?_)
          refine gx_aload2 (q := 697) hG d_L_law_696 rfl ?_
          refine gx_aload0 (q := 698) hG d_L_law_697 rfl ?_
          refine gx_iload3 (q := 699) hG d_L_law_698 rfl ?_
          refine gx_iconst (q := 700) hG d_L_law_699 rfl ?_
          refine gx_iadd (q := 701) hG d_L_law_700 rfl ?_
          refine hSd (q := 702) d_L_law_701 rfl (by omega) (by omega) ?_
          refine gw_V1I (q := 705) hG l_L_81 c_M_said (ev_M_said (inv_mid hI h693).2 (sxR _)) hpM rfl (by decide) (Nat.le_of_ble_eq_true rfl) d_L_law_702 rfl (by decide) (fun z702 w702 h702 => ?_)
          rw [(inv_mid hI h693).1] at h702
          obtain ⟨ez, hI2⟩ := inv_end hI (OK.said hI.1) h693 h702
          exact gx_icmp_same (tgt := 1323) hG d_L_law_705 rfl ez (nx _ hI2)
        | 16, h9 =>
          cases h9
          have c33 : _ = (16 : Int) := c33
          refine ⟨710, rfl, ?_⟩
          refine gx_aload1 (q := 711) hG d_L_law_710 rfl ?_
          refine gx_aload0 (q := 712) hG d_L_law_711 rfl ?_
          refine gx_iload3 (q := 713) hG d_L_law_712 rfl ?_
          refine gx_iconst (q := 714) hG d_L_law_713 rfl ?_
          refine gx_iadd (q := 715) hG d_L_law_714 rfl ?_
          refine hSd (q := 716) d_L_law_715 rfl (by omega) (by omega) ?_
          refine gw_V1I (q := 719) hG l_L_82 c_X_undo (ev_X_undo hI.1 hI.2.2 (sxR _)) hpX rfl (by decide) (Nat.le_of_ble_eq_true rfl) d_L_law_716 rfl (by decide) (fun z716 w716 h716 => ?_)
          refine gx_aload2 (q := 720) hG d_L_law_719 rfl ?_
          refine gx_aload0 (q := 721) hG d_L_law_720 rfl ?_
          refine gx_iload3 (q := 722) hG d_L_law_721 rfl ?_
          refine gx_iconst (q := 723) hG d_L_law_722 rfl ?_
          refine gx_iadd (q := 724) hG d_L_law_723 rfl ?_
          refine hSd (q := 725) d_L_law_724 rfl (by omega) (by omega) ?_
          refine gw_V1I (q := 728) hG l_L_85 c_M_undo (ev_M_undo (inv_mid hI h716).2 (sxR _)) hpM rfl (by decide) (Nat.le_of_ble_eq_true rfl) d_L_law_725 rfl (by decide) (fun z725 w725 h725 => ?_)
          rw [(inv_mid hI h716).1] at h725
          obtain ⟨ez, hI2⟩ := inv_end hI (OK.undo hI.1) h716 h725
          exact gx_icmp_same (tgt := 1323) hG d_L_law_728 rfl ez (nx _ hI2)
        | 17, h9 =>
          cases h9
          have c33 : _ = (17 : Int) := c33
          refine ⟨733, rfl, ?_⟩
          refine gx_aload1 (q := 734) hG d_L_law_733 rfl ?_
          refine gw_V0I (q := 737) hG l_L_86 c_X_turn (ev_X_turn hI.1 hI.2.2) hpX rfl (by decide) (Nat.le_of_ble_eq_true rfl) d_L_law_734 rfl (by decide) (fun z734 w734 h734 => ?_)
          refine gx_aload2 (q := 738) hG d_L_law_737 rfl ?_
          refine gw_V0I (q := 741) hG l_L_89 c_M_turn (ev_M_turn (inv_mid hI h734).2) hpM rfl (by decide) (Nat.le_of_ble_eq_true rfl) d_L_law_738 rfl (by decide) (fun z738 w738 h738 => ?_)
          rw [(inv_mid hI h734).1] at h738
          obtain ⟨ez, hI2⟩ := inv_end hI (OK.turn hI.1) h734 h738
          exact gx_icmp_same (tgt := 1323) hG d_L_law_741 rfl ez (nx _ hI2)
        | 18, h9 =>
          cases h9
          have c33 : _ = (18 : Int) := c33
          refine ⟨746, rfl, ?_⟩
          refine gx_aload1 (q := 747) hG d_L_law_746 rfl ?_
          refine gx_aload0 (q := 748) hG d_L_law_747 rfl ?_
          refine gx_iload3 (q := 749) hG d_L_law_748 rfl ?_
          refine gx_iconst (q := 750) hG d_L_law_749 rfl ?_
          refine gx_iadd (q := 751) hG d_L_law_750 rfl ?_
          refine hSd (q := 752) d_L_law_751 rfl (by omega) (by omega) ?_
          refine gw_V1I (q := 755) hG l_L_90 c_X_keep (ev_X_keep hI.1 hI.2.2 (sxR _)) hpX rfl (by decide) (Nat.le_of_ble_eq_true rfl) d_L_law_752 rfl (by decide) (fun z752 w752 h752 => ?_)
          refine gx_aload2 (q := 756) hG d_L_law_755 rfl ?_
          refine gx_aload0 (q := 757) hG d_L_law_756 rfl ?_
          refine gx_iload3 (q := 758) hG d_L_law_757 rfl ?_
          refine gx_iconst (q := 759) hG d_L_law_758 rfl ?_
          refine gx_iadd (q := 760) hG d_L_law_759 rfl ?_
          refine hSd (q := 761) d_L_law_760 rfl (by omega) (by omega) ?_
          refine gw_V1I (q := 764) hG l_L_93 c_M_keep (ev_M_keep (inv_mid hI h752).2 (sxR _)) hpM rfl (by decide) (Nat.le_of_ble_eq_true rfl) d_L_law_761 rfl (by decide) (fun z761 w761 h761 => ?_)
          rw [(inv_mid hI h752).1] at h761
          obtain ⟨ez, hI2⟩ := inv_end hI (OK.keep hI.1) h752 h761
          exact gx_icmp_same (tgt := 1323) hG d_L_law_764 rfl ez (nx _ hI2)
        | 19, h9 =>
          cases h9
          have c33 : _ = (19 : Int) := c33
          refine ⟨769, rfl, ?_⟩
          refine gx_aload1 (q := 770) hG d_L_law_769 rfl ?_
          refine gx_aload0 (q := 771) hG d_L_law_770 rfl ?_
          refine gx_iload3 (q := 772) hG d_L_law_771 rfl ?_
          refine gx_iconst (q := 773) hG d_L_law_772 rfl ?_
          refine gx_iadd (q := 774) hG d_L_law_773 rfl ?_
          refine hSd (q := 775) d_L_law_774 rfl (by omega) (by omega) ?_
          refine gw_V1I (q := 778) hG l_L_94 c_X_on (ev_X_on hI.1 hI.2.2 (sxR _)) hpX rfl (by decide) (Nat.le_of_ble_eq_true rfl) d_L_law_775 rfl (by decide) (fun z775 w775 h775 => ?_)
          refine gx_aload2 (q := 779) hG d_L_law_778 rfl ?_
          refine gx_aload0 (q := 780) hG d_L_law_779 rfl ?_
          refine gx_iload3 (q := 781) hG d_L_law_780 rfl ?_
          refine gx_iconst (q := 782) hG d_L_law_781 rfl ?_
          refine gx_iadd (q := 783) hG d_L_law_782 rfl ?_
          refine hSd (q := 784) d_L_law_783 rfl (by omega) (by omega) ?_
          refine gw_V1I (q := 787) hG l_L_97 c_M_on (ev_M_on (inv_mid hI h775).2 (sxR _)) hpM rfl (by decide) (Nat.le_of_ble_eq_true rfl) d_L_law_784 rfl (by decide) (fun z784 w784 h784 => ?_)
          rw [(inv_mid hI h775).1] at h784
          obtain ⟨ez, hI2⟩ := inv_end hI (OK.on hI.1) h775 h784
          exact gx_icmp_same (tgt := 1323) hG d_L_law_787 rfl ez (nx _ hI2)
        | 20, h9 =>
          cases h9
          have c33 : _ = (20 : Int) := c33
          refine ⟨792, rfl, ?_⟩
          refine gx_aload1 (q := 793) hG d_L_law_792 rfl ?_
          refine gx_aload0 (q := 794) hG d_L_law_793 rfl ?_
          refine gx_iload3 (q := 795) hG d_L_law_794 rfl ?_
          refine gx_iconst (q := 796) hG d_L_law_795 rfl ?_
          refine gx_iadd (q := 797) hG d_L_law_796 rfl ?_
          refine hSd (q := 798) d_L_law_797 rfl (by omega) (by omega) ?_
          refine gw_V1I (q := 801) hG l_L_98 c_X_had (ev_X_had hI.1 hI.2.2 (sxR _)) hpX rfl (by decide) (Nat.le_of_ble_eq_true rfl) d_L_law_798 rfl (by decide) (fun z798 w798 h798 => ?_)
          refine gx_aload2 (q := 802) hG d_L_law_801 rfl ?_
          refine gx_aload0 (q := 803) hG d_L_law_802 rfl ?_
          refine gx_iload3 (q := 804) hG d_L_law_803 rfl ?_
          refine gx_iconst (q := 805) hG d_L_law_804 rfl ?_
          refine gx_iadd (q := 806) hG d_L_law_805 rfl ?_
          refine hSd (q := 807) d_L_law_806 rfl (by omega) (by omega) ?_
          refine gw_V1I (q := 810) hG l_L_101 c_M_had (ev_M_had (inv_mid hI h798).2 (sxR _)) hpM rfl (by decide) (Nat.le_of_ble_eq_true rfl) d_L_law_807 rfl (by decide) (fun z807 w807 h807 => ?_)
          rw [(inv_mid hI h798).1] at h807
          obtain ⟨ez, hI2⟩ := inv_end hI (OK.had hI.1) h798 h807
          exact gx_icmp_same (tgt := 1323) hG d_L_law_810 rfl ez (nx _ hI2)
        | 21, h9 =>
          cases h9
          have c33 : _ = (21 : Int) := c33
          refine ⟨815, rfl, ?_⟩
          refine gx_aload1 (q := 816) hG d_L_law_815 rfl ?_
          refine gx_aload0 (q := 817) hG d_L_law_816 rfl ?_
          refine gx_iload3 (q := 818) hG d_L_law_817 rfl ?_
          refine gx_iconst (q := 819) hG d_L_law_818 rfl ?_
          refine gx_iadd (q := 820) hG d_L_law_819 rfl ?_
          refine hSd (q := 821) d_L_law_820 rfl (by omega) (by omega) ?_
          refine gw_V1I (q := 824) hG l_L_102 c_X_ways (ev_X_ways hI.1 hI.2.2 (sxR _)) hpX rfl (by decide) (Nat.le_of_ble_eq_true rfl) d_L_law_821 rfl (by decide) (fun z821 w821 h821 => ?_)
          refine gx_aload2 (q := 825) hG d_L_law_824 rfl ?_
          refine gx_aload0 (q := 826) hG d_L_law_825 rfl ?_
          refine gx_iload3 (q := 827) hG d_L_law_826 rfl ?_
          refine gx_iconst (q := 828) hG d_L_law_827 rfl ?_
          refine gx_iadd (q := 829) hG d_L_law_828 rfl ?_
          refine hSd (q := 830) d_L_law_829 rfl (by omega) (by omega) ?_
          refine gw_V1I (q := 833) hG l_L_105 c_M_ways (ev_M_ways (inv_mid hI h821).2 (sxR _)) hpM rfl (by decide) (Nat.le_of_ble_eq_true rfl) d_L_law_830 rfl (by decide) (fun z830 w830 h830 => ?_)
          rw [(inv_mid hI h821).1] at h830
          obtain ⟨ez, hI2⟩ := inv_end hI (OK.ways hI.1) h821 h830
          exact gx_icmp_same (tgt := 1323) hG d_L_law_833 rfl ez (nx _ hI2)
        | 22, h9 =>
          cases h9
          have c33 : _ = (22 : Int) := c33
          refine ⟨838, rfl, ?_⟩
          refine gx_aload1 (q := 839) hG d_L_law_838 rfl ?_
          refine gx_aload0 (q := 840) hG d_L_law_839 rfl ?_
          refine gx_iload3 (q := 841) hG d_L_law_840 rfl ?_
          refine gx_iconst (q := 842) hG d_L_law_841 rfl ?_
          refine gx_iadd (q := 843) hG d_L_law_842 rfl ?_
          refine hSd (q := 844) d_L_law_843 rfl (by omega) (by omega) ?_
          refine gx_aload0 (q := 845) hG d_L_law_844 rfl ?_
          refine gx_iload3 (q := 846) hG d_L_law_845 rfl ?_
          refine gx_iconst (q := 847) hG d_L_law_846 rfl ?_
          refine gx_iadd (q := 848) hG d_L_law_847 rfl ?_
          refine hSd (q := 849) d_L_law_848 rfl (by omega) (by omega) ?_
          refine gw_V2I (q := 852) hG l_L_106 c_X_byJust (ev_X_byJust hI.1 hI.2.2 (sxR _) (sxR _)) hpX rfl (by decide) (Nat.le_of_ble_eq_true rfl) d_L_law_849 rfl (by decide) (fun z849 w849 h849 => ?_)
          refine gx_aload2 (q := 853) hG d_L_law_852 rfl ?_
          refine gx_aload0 (q := 854) hG d_L_law_853 rfl ?_
          refine gx_iload3 (q := 855) hG d_L_law_854 rfl ?_
          refine gx_iconst (q := 856) hG d_L_law_855 rfl ?_
          refine gx_iadd (q := 857) hG d_L_law_856 rfl ?_
          refine hSd (q := 858) d_L_law_857 rfl (by omega) (by omega) ?_
          refine gx_aload0 (q := 859) hG d_L_law_858 rfl ?_
          refine gx_iload3 (q := 860) hG d_L_law_859 rfl ?_
          refine gx_iconst (q := 861) hG d_L_law_860 rfl ?_
          refine gx_iadd (q := 862) hG d_L_law_861 rfl ?_
          refine hSd (q := 863) d_L_law_862 rfl (by omega) (by omega) ?_
          refine gw_V2I (q := 866) hG l_L_109 c_M_byJust (ev_M_byJust (inv_mid hI h849).2 (sxR _) (sxR _)) hpM rfl (by decide) (Nat.le_of_ble_eq_true rfl) d_L_law_863 rfl (by decide) (fun z863 w863 h863 => ?_)
          rw [(inv_mid hI h849).1] at h863
          obtain ⟨ez, hI2⟩ := inv_end hI (OK.byJust hI.1) h849 h863
          exact gx_icmp_same (tgt := 1323) hG d_L_law_866 rfl ez (nx _ hI2)
        | 23, h9 =>
          cases h9
          have c33 : _ = (23 : Int) := c33
          refine ⟨871, rfl, ?_⟩
          refine gx_aload1 (q := 872) hG d_L_law_871 rfl ?_
          refine gx_aload0 (q := 873) hG d_L_law_872 rfl ?_
          refine gx_iload3 (q := 874) hG d_L_law_873 rfl ?_
          refine gx_iconst (q := 875) hG d_L_law_874 rfl ?_
          refine gx_iadd (q := 876) hG d_L_law_875 rfl ?_
          refine hSd (q := 877) d_L_law_876 rfl (by omega) (by omega) ?_
          refine gw_V1I (q := 880) hG l_L_110 c_X_gaps (ev_X_gaps hI.1 hI.2.2 (sxR _)) hpX rfl (by decide) (Nat.le_of_ble_eq_true rfl) d_L_law_877 rfl (by decide) (fun z877 w877 h877 => ?_)
          refine gx_aload2 (q := 881) hG d_L_law_880 rfl ?_
          refine gx_aload0 (q := 882) hG d_L_law_881 rfl ?_
          refine gx_iload3 (q := 883) hG d_L_law_882 rfl ?_
          refine gx_iconst (q := 884) hG d_L_law_883 rfl ?_
          refine gx_iadd (q := 885) hG d_L_law_884 rfl ?_
          refine hSd (q := 886) d_L_law_885 rfl (by omega) (by omega) ?_
          refine gw_V1I (q := 889) hG l_L_113 c_M_gaps (ev_M_gaps (inv_mid hI h877).2 (sxR _)) hpM rfl (by decide) (Nat.le_of_ble_eq_true rfl) d_L_law_886 rfl (by decide) (fun z886 w886 h886 => ?_)
          rw [(inv_mid hI h877).1] at h886
          obtain ⟨ez, hI2⟩ := inv_end hI (OK.gaps hI.1) h877 h886
          exact gx_icmp_same (tgt := 1323) hG d_L_law_889 rfl ez (nx _ hI2)
        | 24, h9 =>
          cases h9
          have c33 : _ = (24 : Int) := c33
          refine ⟨894, rfl, ?_⟩
          refine gx_aload1 (q := 895) hG d_L_law_894 rfl ?_
          refine gw_V0I (q := 898) hG l_L_114 c_X_greatest (ev_X_greatest hI.1 hI.2.2) hpX rfl (by decide) (Nat.le_of_ble_eq_true rfl) d_L_law_895 rfl (by decide) (fun z895 w895 h895 => ?_)
          refine gx_aload2 (q := 899) hG d_L_law_898 rfl ?_
          refine gw_V0I (q := 902) hG l_L_117 c_M_greatest (ev_M_greatest (inv_mid hI h895).2) hpM rfl (by decide) (Nat.le_of_ble_eq_true rfl) d_L_law_899 rfl (by decide) (fun z899 w899 h899 => ?_)
          rw [(inv_mid hI h895).1] at h899
          obtain ⟨ez, hI2⟩ := inv_end hI (OK.greatest hI.1) h895 h899
          exact gx_icmp_same (tgt := 1323) hG d_L_law_902 rfl ez (nx _ hI2)
        | 25, h9 =>
          cases h9
          have c33 : _ = (25 : Int) := c33
          refine ⟨907, rfl, ?_⟩
          refine gx_aload1 (q := 908) hG d_L_law_907 rfl ?_
          refine gx_aload0 (q := 909) hG d_L_law_908 rfl ?_
          refine gx_iload3 (q := 910) hG d_L_law_909 rfl ?_
          refine gx_iconst (q := 911) hG d_L_law_910 rfl ?_
          refine gx_iadd (q := 912) hG d_L_law_911 rfl ?_
          refine hSd (q := 913) d_L_law_912 rfl (by omega) (by omega) ?_
          refine gx_aload0 (q := 914) hG d_L_law_913 rfl ?_
          refine gx_iload3 (q := 915) hG d_L_law_914 rfl ?_
          refine gx_iconst (q := 916) hG d_L_law_915 rfl ?_
          refine gx_iadd (q := 917) hG d_L_law_916 rfl ?_
          refine hSd (q := 918) d_L_law_917 rfl (by omega) (by omega) ?_
          refine gw_V2I (q := 921) hG l_L_118 c_X_rest (ev_X_rest hI.1 hI.2.2 (sxR _) (sxR _)) hpX rfl (by decide) (Nat.le_of_ble_eq_true rfl) d_L_law_918 rfl (by decide) (fun z918 w918 h918 => ?_)
          refine gx_aload2 (q := 922) hG d_L_law_921 rfl ?_
          refine gx_aload0 (q := 923) hG d_L_law_922 rfl ?_
          refine gx_iload3 (q := 924) hG d_L_law_923 rfl ?_
          refine gx_iconst (q := 925) hG d_L_law_924 rfl ?_
          refine gx_iadd (q := 926) hG d_L_law_925 rfl ?_
          refine hSd (q := 927) d_L_law_926 rfl (by omega) (by omega) ?_
          refine gx_aload0 (q := 928) hG d_L_law_927 rfl ?_
          refine gx_iload3 (q := 929) hG d_L_law_928 rfl ?_
          refine gx_iconst (q := 930) hG d_L_law_929 rfl ?_
          refine gx_iadd (q := 931) hG d_L_law_930 rfl ?_
          refine hSd (q := 932) d_L_law_931 rfl (by omega) (by omega) ?_
          refine gw_V2I (q := 935) hG l_L_121 c_M_rest (ev_M_rest (inv_mid hI h918).2 (sxR _) (sxR _)) hpM rfl (by decide) (Nat.le_of_ble_eq_true rfl) d_L_law_932 rfl (by decide) (fun z932 w932 h932 => ?_)
          rw [(inv_mid hI h918).1] at h932
          obtain ⟨ez, hI2⟩ := inv_end hI (OK.rest hI.1) h918 h932
          exact gx_icmp_same (tgt := 1323) hG d_L_law_935 rfl ez (nx _ hI2)
        | 26, h9 =>
          cases h9
          have c33 : _ = (26 : Int) := c33
          refine ⟨940, rfl, ?_⟩
          refine gx_aload1 (q := 941) hG d_L_law_940 rfl ?_
          refine gw_V0I (q := 944) hG l_L_122 c_X_needed (ev_X_needed hI.1 hI.2.2) hpX rfl (by decide) (Nat.le_of_ble_eq_true rfl) d_L_law_941 rfl (by decide) (fun z941 w941 h941 => ?_)
          refine gx_aload2 (q := 945) hG d_L_law_944 rfl ?_
          refine gw_V0I (q := 948) hG l_L_125 c_M_needed (ev_M_needed (inv_mid hI h941).2) hpM rfl (by decide) (Nat.le_of_ble_eq_true rfl) d_L_law_945 rfl (by decide) (fun z945 w945 h945 => ?_)
          rw [(inv_mid hI h941).1] at h945
          obtain ⟨ez, hI2⟩ := inv_end hI (OK.needed hI.1) h941 h945
          exact gx_icmp_same (tgt := 1323) hG d_L_law_948 rfl ez (nx _ hI2)
        | 27, h9 =>
          cases h9
          have c33 : _ = (27 : Int) := c33
          refine ⟨953, rfl, ?_⟩
          refine gx_aload1 (q := 954) hG d_L_law_953 rfl ?_
          refine gw_V0X (q := 957) hG l_L_126 c_X_common (ev_X_common hI.1 hI.2.2) hpX rfl (by decide) (Nat.le_of_ble_eq_true rfl) d_L_law_954 rfl (by decide) ?_
          refine gx_aload2 (q := 958) hG d_L_law_957 rfl ?_
          refine gw_V0X (q := 961) hG l_L_129 c_M_common (ev_M_common (inv_m hI)) hpM rfl (by decide) (Nat.le_of_ble_eq_true rfl) d_L_law_958 rfl (by decide) ?_
          exact gx_icmp_same (tgt := 1323) hG d_L_law_961 rfl (by rw [hI.2.1]) (nx _ hI)
        | 28, h9 =>
          cases h9
          have c33 : _ = (28 : Int) := c33
          refine ⟨966, rfl, ?_⟩
          refine gx_aload1 (q := 967) hG d_L_law_966 rfl ?_
          refine gw_V0I (q := 970) hG l_L_130 c_X_from (ev_X_from hI.1 hI.2.2) hpX rfl (by decide) (Nat.le_of_ble_eq_true rfl) d_L_law_967 rfl (by decide) (fun z967 w967 h967 => ?_)
          refine gx_aload2 (q := 971) hG d_L_law_970 rfl ?_
          refine gw_V0I (q := 974) hG l_L_133 c_M_from (ev_M_from (inv_mid hI h967).2) hpM rfl (by decide) (Nat.le_of_ble_eq_true rfl) d_L_law_971 rfl (by decide) (fun z971 w971 h971 => ?_)
          rw [(inv_mid hI h967).1] at h971
          obtain ⟨ez, hI2⟩ := inv_end hI (OK.from' hI.1) h967 h971
          exact gx_icmp_same (tgt := 1323) hG d_L_law_974 rfl ez (nx _ hI2)
        | 29, h9 =>
          cases h9
          have c33 : _ = (29 : Int) := c33
          refine ⟨979, rfl, ?_⟩
          refine gx_aload1 (q := 980) hG d_L_law_979 rfl ?_
          refine gx_aload0 (q := 981) hG d_L_law_980 rfl ?_
          refine gx_iload3 (q := 982) hG d_L_law_981 rfl ?_
          refine gx_iconst (q := 983) hG d_L_law_982 rfl ?_
          refine gx_iadd (q := 984) hG d_L_law_983 rfl ?_
          refine hSd (q := 985) d_L_law_984 rfl (by omega) (by omega) ?_
          refine gw_V1I (q := 988) hG l_L_134 c_X_wish (ev_X_wish hI.1 hI.2.2 (sxR _)) hpX rfl (by decide) (Nat.le_of_ble_eq_true rfl) d_L_law_985 rfl (by decide) (fun z985 w985 h985 => ?_)
          refine gx_aload2 (q := 989) hG d_L_law_988 rfl ?_
          refine gx_aload0 (q := 990) hG d_L_law_989 rfl ?_
          refine gx_iload3 (q := 991) hG d_L_law_990 rfl ?_
          refine gx_iconst (q := 992) hG d_L_law_991 rfl ?_
          refine gx_iadd (q := 993) hG d_L_law_992 rfl ?_
          refine hSd (q := 994) d_L_law_993 rfl (by omega) (by omega) ?_
          refine gw_V1I (q := 997) hG l_L_137 c_M_wish (ev_M_wish (inv_mid hI h985).2 (sxR _)) hpM rfl (by decide) (Nat.le_of_ble_eq_true rfl) d_L_law_994 rfl (by decide) (fun z994 w994 h994 => ?_)
          rw [(inv_mid hI h985).1] at h994
          obtain ⟨ez, hI2⟩ := inv_end hI (OK.wish hI.1) h985 h994
          exact gx_icmp_same (tgt := 1323) hG d_L_law_997 rfl ez (nx _ hI2)
        | 30, h9 =>
          cases h9
          have c33 : _ = (30 : Int) := c33
          refine ⟨1002, rfl, ?_⟩
          refine gx_aload1 (q := 1003) hG d_L_law_1002 rfl ?_
          refine gw_V0I (q := 1006) hG l_L_138 c_X_whose (ev_X_whose hI.1 hI.2.2) hpX rfl (by decide) (Nat.le_of_ble_eq_true rfl) d_L_law_1003 rfl (by decide) (fun z1003 w1003 h1003 => ?_)
          refine gx_aload2 (q := 1007) hG d_L_law_1006 rfl ?_
          refine gw_V0I (q := 1010) hG l_L_141 c_M_whose (ev_M_whose (inv_mid hI h1003).2) hpM rfl (by decide) (Nat.le_of_ble_eq_true rfl) d_L_law_1007 rfl (by decide) (fun z1007 w1007 h1007 => ?_)
          rw [(inv_mid hI h1003).1] at h1007
          obtain ⟨ez, hI2⟩ := inv_end hI (OK.whose hI.1) h1003 h1007
          exact gx_icmp_same (tgt := 1323) hG d_L_law_1010 rfl ez (nx _ hI2)
        | 31, h9 =>
          cases h9
          have c33 : _ = (31 : Int) := c33
          refine ⟨1015, rfl, ?_⟩
          refine gx_aload1 (q := 1016) hG d_L_law_1015 rfl ?_
          refine gx_aload0 (q := 1017) hG d_L_law_1016 rfl ?_
          refine gx_iload3 (q := 1018) hG d_L_law_1017 rfl ?_
          refine gx_iconst (q := 1019) hG d_L_law_1018 rfl ?_
          refine gx_iadd (q := 1020) hG d_L_law_1019 rfl ?_
          refine hSd (q := 1021) d_L_law_1020 rfl (by omega) (by omega) ?_
          refine gw_V1I (q := 1024) hG l_L_142 c_X_best (ev_X_best hI.1 hI.2.2 (sxR _)) hpX rfl (by decide) (Nat.le_of_ble_eq_true rfl) d_L_law_1021 rfl (by decide) (fun z1021 w1021 h1021 => ?_)
          refine gx_aload2 (q := 1025) hG d_L_law_1024 rfl ?_
          refine gx_aload0 (q := 1026) hG d_L_law_1025 rfl ?_
          refine gx_iload3 (q := 1027) hG d_L_law_1026 rfl ?_
          refine gx_iconst (q := 1028) hG d_L_law_1027 rfl ?_
          refine gx_iadd (q := 1029) hG d_L_law_1028 rfl ?_
          refine hSd (q := 1030) d_L_law_1029 rfl (by omega) (by omega) ?_
          refine gw_V1I (q := 1033) hG l_L_145 c_M_best (ev_M_best (inv_mid hI h1021).2 (sxR _)) hpM rfl (by decide) (Nat.le_of_ble_eq_true rfl) d_L_law_1030 rfl (by decide) (fun z1030 w1030 h1030 => ?_)
          rw [(inv_mid hI h1021).1] at h1030
          obtain ⟨ez, hI2⟩ := inv_end hI (OK.best hI.1) h1021 h1030
          exact gx_icmp_same (tgt := 1323) hG d_L_law_1033 rfl ez (nx _ hI2)
        | 32, h9 =>
          cases h9
          have c33 : _ = (32 : Int) := c33
          refine ⟨1038, rfl, ?_⟩
          refine gx_aload1 (q := 1039) hG d_L_law_1038 rfl ?_
          refine gw_V0I (q := 1042) hG l_L_146 c_X_lasts (ev_X_lasts hI.1 hI.2.2) hpX rfl (by decide) (Nat.le_of_ble_eq_true rfl) d_L_law_1039 rfl (by decide) (fun z1039 w1039 h1039 => ?_)
          refine gx_aload2 (q := 1043) hG d_L_law_1042 rfl ?_
          refine gw_V0I (q := 1046) hG l_L_149 c_M_lasts (ev_M_lasts (inv_mid hI h1039).2) hpM rfl (by decide) (Nat.le_of_ble_eq_true rfl) d_L_law_1043 rfl (by decide) (fun z1043 w1043 h1043 => ?_)
          rw [(inv_mid hI h1039).1] at h1043
          obtain ⟨ez, hI2⟩ := inv_end hI (OK.lasts hI.1) h1039 h1043
          exact gx_icmp_same (tgt := 1323) hG d_L_law_1046 rfl ez (nx _ hI2)
        | 33, h9 =>
          cases h9
          have c33 : _ = (33 : Int) := c33
          refine ⟨1051, rfl, ?_⟩
          refine gx_aload1 (q := 1052) hG d_L_law_1051 rfl ?_
          refine gw_V0I (q := 1055) hG l_L_150 c_X_share (ev_X_share hI.1 hI.2.2) hpX rfl (by decide) (Nat.le_of_ble_eq_true rfl) d_L_law_1052 rfl (by decide) (fun z1052 w1052 h1052 => ?_)
          refine gx_aload2 (q := 1056) hG d_L_law_1055 rfl ?_
          refine gw_V0I (q := 1059) hG l_L_153 c_M_share (ev_M_share (inv_mid hI h1052).2) hpM rfl (by decide) (Nat.le_of_ble_eq_true rfl) d_L_law_1056 rfl (by decide) (fun z1056 w1056 h1056 => ?_)
          rw [(inv_mid hI h1052).1] at h1056
          obtain ⟨ez, hI2⟩ := inv_end hI (OK.share hI.1) h1052 h1056
          exact gx_icmp_same (tgt := 1323) hG d_L_law_1059 rfl ez (nx _ hI2)
        | 34, h9 =>
          cases h9
          have c33 : _ = (34 : Int) := c33
          refine ⟨1064, rfl, ?_⟩
          refine gx_aload1 (q := 1065) hG d_L_law_1064 rfl ?_
          refine gx_aload0 (q := 1066) hG d_L_law_1065 rfl ?_
          refine gx_iload3 (q := 1067) hG d_L_law_1066 rfl ?_
          refine gx_iconst (q := 1068) hG d_L_law_1067 rfl ?_
          refine gx_iadd (q := 1069) hG d_L_law_1068 rfl ?_
          refine hSd (q := 1070) d_L_law_1069 rfl (by omega) (by omega) ?_
          refine gw_V1I (q := 1073) hG l_L_154 c_X_says (ev_X_says hI.1 hI.2.2 (sxR _)) hpX rfl (by decide) (Nat.le_of_ble_eq_true rfl) d_L_law_1070 rfl (by decide) (fun z1070 w1070 h1070 => ?_)
          refine gx_aload2 (q := 1074) hG d_L_law_1073 rfl ?_
          refine gx_aload0 (q := 1075) hG d_L_law_1074 rfl ?_
          refine gx_iload3 (q := 1076) hG d_L_law_1075 rfl ?_
          refine gx_iconst (q := 1077) hG d_L_law_1076 rfl ?_
          refine gx_iadd (q := 1078) hG d_L_law_1077 rfl ?_
          refine hSd (q := 1079) d_L_law_1078 rfl (by omega) (by omega) ?_
          refine gw_V1I (q := 1082) hG l_L_157 c_M_says (ev_M_says (inv_mid hI h1070).2 (sxR _)) hpM rfl (by decide) (Nat.le_of_ble_eq_true rfl) d_L_law_1079 rfl (by decide) (fun z1079 w1079 h1079 => ?_)
          rw [(inv_mid hI h1070).1] at h1079
          obtain ⟨ez, hI2⟩ := inv_end hI (OK.says hI.1) h1070 h1079
          exact gx_icmp_same (tgt := 1323) hG d_L_law_1082 rfl ez (nx _ hI2)
        | 35, h9 =>
          cases h9
          have c33 : _ = (35 : Int) := c33
          refine ⟨1087, rfl, ?_⟩
          refine gx_aload1 (q := 1088) hG d_L_law_1087 rfl ?_
          refine gx_aload0 (q := 1089) hG d_L_law_1088 rfl ?_
          refine gx_iload3 (q := 1090) hG d_L_law_1089 rfl ?_
          refine gx_iconst (q := 1091) hG d_L_law_1090 rfl ?_
          refine gx_iadd (q := 1092) hG d_L_law_1091 rfl ?_
          refine hSd (q := 1093) d_L_law_1092 rfl (by omega) (by omega) ?_
          refine gx_aload0 (q := 1094) hG d_L_law_1093 rfl ?_
          refine gx_iload3 (q := 1095) hG d_L_law_1094 rfl ?_
          refine gx_iconst (q := 1096) hG d_L_law_1095 rfl ?_
          refine gx_iadd (q := 1097) hG d_L_law_1096 rfl ?_
          refine hSd (q := 1098) d_L_law_1097 rfl (by omega) (by omega) ?_
          refine gw_V2I (q := 1101) hG l_L_158 c_X_play (ev_X_play hI.1 hI.2.2 (sxR _) (sxR _)) hpX rfl (by decide) (Nat.le_of_ble_eq_true rfl) d_L_law_1098 rfl (by decide) (fun z1098 w1098 h1098 => ?_)
          refine gx_aload2 (q := 1102) hG d_L_law_1101 rfl ?_
          refine gx_aload0 (q := 1103) hG d_L_law_1102 rfl ?_
          refine gx_iload3 (q := 1104) hG d_L_law_1103 rfl ?_
          refine gx_iconst (q := 1105) hG d_L_law_1104 rfl ?_
          refine gx_iadd (q := 1106) hG d_L_law_1105 rfl ?_
          refine hSd (q := 1107) d_L_law_1106 rfl (by omega) (by omega) ?_
          refine gx_aload0 (q := 1108) hG d_L_law_1107 rfl ?_
          refine gx_iload3 (q := 1109) hG d_L_law_1108 rfl ?_
          refine gx_iconst (q := 1110) hG d_L_law_1109 rfl ?_
          refine gx_iadd (q := 1111) hG d_L_law_1110 rfl ?_
          refine hSd (q := 1112) d_L_law_1111 rfl (by omega) (by omega) ?_
          refine gw_V2I (q := 1115) hG l_L_161 c_M_play (ev_M_play (inv_mid hI h1098).2 (sxR _) (sxR _)) hpM rfl (by decide) (Nat.le_of_ble_eq_true rfl) d_L_law_1112 rfl (by decide) (fun z1112 w1112 h1112 => ?_)
          rw [(inv_mid hI h1098).1] at h1112
          obtain ⟨ez, hI2⟩ := inv_end hI (OK.play hI.1) h1098 h1112
          exact gx_icmp_same (tgt := 1323) hG d_L_law_1115 rfl ez (nx _ hI2)
        | 36, h9 =>
          cases h9
          have c33 : _ = (36 : Int) := c33
          refine ⟨1120, rfl, ?_⟩
          refine gx_aload1 (q := 1121) hG d_L_law_1120 rfl ?_
          refine gx_aload0 (q := 1122) hG d_L_law_1121 rfl ?_
          refine gx_iload3 (q := 1123) hG d_L_law_1122 rfl ?_
          refine gx_iconst (q := 1124) hG d_L_law_1123 rfl ?_
          refine gx_iadd (q := 1125) hG d_L_law_1124 rfl ?_
          refine hSd (q := 1126) d_L_law_1125 rfl (by omega) (by omega) ?_
          refine gw_V1I (q := 1129) hG l_L_162 c_X_list (ev_X_list hI.1 hI.2.2 (sxR _)) hpX rfl (by decide) (Nat.le_of_ble_eq_true rfl) d_L_law_1126 rfl (by decide) (fun z1126 w1126 h1126 => ?_)
          refine gx_aload2 (q := 1130) hG d_L_law_1129 rfl ?_
          refine gx_aload0 (q := 1131) hG d_L_law_1130 rfl ?_
          refine gx_iload3 (q := 1132) hG d_L_law_1131 rfl ?_
          refine gx_iconst (q := 1133) hG d_L_law_1132 rfl ?_
          refine gx_iadd (q := 1134) hG d_L_law_1133 rfl ?_
          refine hSd (q := 1135) d_L_law_1134 rfl (by omega) (by omega) ?_
          refine gw_V1I (q := 1138) hG l_L_165 c_M_list (ev_M_list (inv_mid hI h1126).2 (sxR _)) hpM rfl (by decide) (Nat.le_of_ble_eq_true rfl) d_L_law_1135 rfl (by decide) (fun z1135 w1135 h1135 => ?_)
          rw [(inv_mid hI h1126).1] at h1135
          obtain ⟨ez, hI2⟩ := inv_end hI (OK.list hI.1) h1126 h1135
          exact gx_icmp_same (tgt := 1323) hG d_L_law_1138 rfl ez (nx _ hI2)
        | 37, h9 =>
          cases h9
          have c33 : _ = (37 : Int) := c33
          refine ⟨1143, rfl, ?_⟩
          refine gx_aload1 (q := 1144) hG d_L_law_1143 rfl ?_
          refine gx_aload0 (q := 1145) hG d_L_law_1144 rfl ?_
          refine gx_iload3 (q := 1146) hG d_L_law_1145 rfl ?_
          refine gx_iconst (q := 1147) hG d_L_law_1146 rfl ?_
          refine gx_iadd (q := 1148) hG d_L_law_1147 rfl ?_
          refine hSd (q := 1149) d_L_law_1148 rfl (by omega) (by omega) ?_
          refine gx_aload0 (q := 1150) hG d_L_law_1149 rfl ?_
          refine gx_iload3 (q := 1151) hG d_L_law_1150 rfl ?_
          refine gx_iconst (q := 1152) hG d_L_law_1151 rfl ?_
          refine gx_iadd (q := 1153) hG d_L_law_1152 rfl ?_
          refine hSd (q := 1154) d_L_law_1153 rfl (by omega) (by omega) ?_
          refine gw_V2I (q := 1157) hG l_L_166 c_X_makes (ev_X_makes hI.1 hI.2.2 (sxR _) (sxR _)) hpX rfl (by decide) (Nat.le_of_ble_eq_true rfl) d_L_law_1154 rfl (by decide) (fun z1154 w1154 h1154 => ?_)
          refine gx_aload2 (q := 1158) hG d_L_law_1157 rfl ?_
          refine gx_aload0 (q := 1159) hG d_L_law_1158 rfl ?_
          refine gx_iload3 (q := 1160) hG d_L_law_1159 rfl ?_
          refine gx_iconst (q := 1161) hG d_L_law_1160 rfl ?_
          refine gx_iadd (q := 1162) hG d_L_law_1161 rfl ?_
          refine hSd (q := 1163) d_L_law_1162 rfl (by omega) (by omega) ?_
          refine gx_aload0 (q := 1164) hG d_L_law_1163 rfl ?_
          refine gx_iload3 (q := 1165) hG d_L_law_1164 rfl ?_
          refine gx_iconst (q := 1166) hG d_L_law_1165 rfl ?_
          refine gx_iadd (q := 1167) hG d_L_law_1166 rfl ?_
          refine hSd (q := 1168) d_L_law_1167 rfl (by omega) (by omega) ?_
          refine gw_V2I (q := 1171) hG l_L_169 c_M_makes (ev_M_makes (inv_mid hI h1154).2 (sxR _) (sxR _)) hpM rfl (by decide) (Nat.le_of_ble_eq_true rfl) d_L_law_1168 rfl (by decide) (fun z1168 w1168 h1168 => ?_)
          rw [(inv_mid hI h1154).1] at h1168
          obtain ⟨ez, hI2⟩ := inv_end hI (OK.makes hI.1) h1154 h1168
          exact gx_icmp_same (tgt := 1323) hG d_L_law_1171 rfl ez (nx _ hI2)
        | 38, h9 =>
          cases h9
          have c33 : _ = (38 : Int) := c33
          refine ⟨1176, rfl, ?_⟩
          refine gx_aload1 (q := 1177) hG d_L_law_1176 rfl ?_
          refine gx_aload0 (q := 1178) hG d_L_law_1177 rfl ?_
          refine gx_iload3 (q := 1179) hG d_L_law_1178 rfl ?_
          refine gx_iconst (q := 1180) hG d_L_law_1179 rfl ?_
          refine gx_iadd (q := 1181) hG d_L_law_1180 rfl ?_
          refine hSd (q := 1182) d_L_law_1181 rfl (by omega) (by omega) ?_
          refine gx_aload0 (q := 1183) hG d_L_law_1182 rfl ?_
          refine gx_iload3 (q := 1184) hG d_L_law_1183 rfl ?_
          refine gx_iconst (q := 1185) hG d_L_law_1184 rfl ?_
          refine gx_iadd (q := 1186) hG d_L_law_1185 rfl ?_
          refine hSd (q := 1187) d_L_law_1186 rfl (by omega) (by omega) ?_
          refine gw_V2I (q := 1190) hG l_L_170 c_X_tree (ev_X_tree hI.1 hI.2.2 (sxR _) (sxR _)) hpX rfl (by decide) (Nat.le_of_ble_eq_true rfl) d_L_law_1187 rfl (by decide) (fun z1187 w1187 h1187 => ?_)
          refine gx_aload2 (q := 1191) hG d_L_law_1190 rfl ?_
          refine gx_aload0 (q := 1192) hG d_L_law_1191 rfl ?_
          refine gx_iload3 (q := 1193) hG d_L_law_1192 rfl ?_
          refine gx_iconst (q := 1194) hG d_L_law_1193 rfl ?_
          refine gx_iadd (q := 1195) hG d_L_law_1194 rfl ?_
          refine hSd (q := 1196) d_L_law_1195 rfl (by omega) (by omega) ?_
          refine gx_aload0 (q := 1197) hG d_L_law_1196 rfl ?_
          refine gx_iload3 (q := 1198) hG d_L_law_1197 rfl ?_
          refine gx_iconst (q := 1199) hG d_L_law_1198 rfl ?_
          refine gx_iadd (q := 1200) hG d_L_law_1199 rfl ?_
          refine hSd (q := 1201) d_L_law_1200 rfl (by omega) (by omega) ?_
          refine gw_V2I (q := 1204) hG l_L_173 c_M_tree (ev_M_tree (inv_mid hI h1187).2 (sxR _) (sxR _)) hpM rfl (by decide) (Nat.le_of_ble_eq_true rfl) d_L_law_1201 rfl (by decide) (fun z1201 w1201 h1201 => ?_)
          rw [(inv_mid hI h1187).1] at h1201
          obtain ⟨ez, hI2⟩ := inv_end hI (OK.tree hI.1) h1187 h1201
          exact gx_icmp_same (tgt := 1323) hG d_L_law_1204 rfl ez (nx _ hI2)
        | 39, h9 =>
          cases h9
          have c33 : _ = (39 : Int) := c33
          refine ⟨1209, rfl, ?_⟩
          refine gx_aload1 (q := 1210) hG d_L_law_1209 rfl ?_
          refine gw_V0X (q := 1213) hG l_L_174 c_X_asked (ev_X_asked) hpX rfl (by decide) (Nat.le_of_ble_eq_true rfl) d_L_law_1210 rfl (by decide) ?_
          refine gx_aload2 (q := 1214) hG d_L_law_1213 rfl ?_
          refine gw_V0X (q := 1217) hG l_L_177 c_M_asked (ev_M_asked) hpM rfl (by decide) (Nat.le_of_ble_eq_true rfl) d_L_law_1214 rfl (by decide) ?_
          exact gx_icmp_same (tgt := 1323) hG d_L_law_1217 rfl (by rw [hI.2.1]) (nx _ hI)
        | 40, h9 =>
          cases h9
          have c33 : _ = (40 : Int) := c33
          refine ⟨1222, rfl, ?_⟩
          refine gx_aload1 (q := 1223) hG d_L_law_1222 rfl ?_
          refine gw_V0X (q := 1226) hG l_L_178 c_X_upper (ev_X_upper) hpX rfl (by decide) (Nat.le_of_ble_eq_true rfl) d_L_law_1223 rfl (by decide) ?_
          refine gx_aload2 (q := 1227) hG d_L_law_1226 rfl ?_
          refine gw_V0X (q := 1230) hG l_L_182 c_M_upper (ev_M_upper) hpM rfl (by decide) (Nat.le_of_ble_eq_true rfl) d_L_law_1227 rfl (by decide) ?_
          exact gx_lcmp_same hG d_L_law_1230 rfl (by rw [hI.2.1]) (gx_if_eq (tgt := 1323) (q := 1234) hG d_L_law_1231 rfl rfl (by decide) (fun _ => nx _ hI) (fun q => absurd rfl q))
        | 41, h9 =>
          cases h9
          have c33 : _ = (41 : Int) := c33
          refine ⟨1236, rfl, ?_⟩
          refine gx_aload1 (q := 1237) hG d_L_law_1236 rfl ?_
          refine gw_V0X (q := 1240) hG l_L_183 c_X_lower (ev_X_lower) hpX rfl (by decide) (Nat.le_of_ble_eq_true rfl) d_L_law_1237 rfl (by decide) ?_
          refine gx_aload2 (q := 1241) hG d_L_law_1240 rfl ?_
          refine gw_V0X (q := 1244) hG l_L_186 c_M_lower (ev_M_lower) hpM rfl (by decide) (Nat.le_of_ble_eq_true rfl) d_L_law_1241 rfl (by decide) ?_
          exact gx_lcmp_same hG d_L_law_1244 rfl (by rw [hI.2.1]) (gx_if_eq (tgt := 1323) (q := 1248) hG d_L_law_1245 rfl rfl (by decide) (fun _ => nx _ hI) (fun q => absurd rfl q))
        | 42, h9 =>
          cases h9
          have c33 : _ = (42 : Int) := c33
          refine ⟨1250, rfl, ?_⟩
          refine gx_aload1 (q := 1251) hG d_L_law_1250 rfl ?_
          refine gx_aload0 (q := 1252) hG d_L_law_1251 rfl ?_
          refine gx_iload3 (q := 1253) hG d_L_law_1252 rfl ?_
          refine gx_iconst (q := 1254) hG d_L_law_1253 rfl ?_
          refine gx_iadd (q := 1255) hG d_L_law_1254 rfl ?_
          refine hSd (q := 1256) d_L_law_1255 rfl (by omega) (by omega) ?_
          refine gw_V1X (q := 1259) hG l_L_187 c_X_count (ev_X_count hI.1 hI.2.2 (sxR _)) hpX rfl (by decide) (Nat.le_of_ble_eq_true rfl) d_L_law_1256 rfl (by decide) ?_
          refine gx_aload2 (q := 1260) hG d_L_law_1259 rfl ?_
          refine gx_aload0 (q := 1261) hG d_L_law_1260 rfl ?_
          refine gx_iload3 (q := 1262) hG d_L_law_1261 rfl ?_
          refine gx_iconst (q := 1263) hG d_L_law_1262 rfl ?_
          refine gx_iadd (q := 1264) hG d_L_law_1263 rfl ?_
          refine hSd (q := 1265) d_L_law_1264 rfl (by omega) (by omega) ?_
          refine gw_V1I (q := 1268) hG l_L_190 c_M_count (ev_M_count (inv_m hI) (sxR _)) hpM rfl (by decide) (Nat.le_of_ble_eq_true rfl) d_L_law_1265 rfl (by decide) (fun z1265 w1265 h1265 => ?_)
          exact gx_icmp_same (tgt := 1323) hG d_L_law_1268 rfl (by rw [h1265.1, hI.2.1]) (nx _ (inv_sm hI h1265.2))
        | 43, h9 =>
          cases h9
          have c33 : _ = (43 : Int) := c33
          refine ⟨1273, rfl, ?_⟩
          refine gx_aload1 (q := 1274) hG d_L_law_1273 rfl ?_
          refine gw_V0X (q := 1277) hG l_L_191 c_X_finding (ev_X_finding) hpX rfl (by decide) (Nat.le_of_ble_eq_true rfl) d_L_law_1274 rfl (by decide) ?_
          refine gx_aload2 (q := 1278) hG d_L_law_1277 rfl ?_
          refine gw_V0X (q := 1281) hG l_L_194 c_M_finding (ev_M_finding) hpM rfl (by decide) (Nat.le_of_ble_eq_true rfl) d_L_law_1278 rfl (by decide) ?_
          exact gx_icmp_same (tgt := 1323) hG d_L_law_1281 rfl (by rw [hI.2.1]) (nx _ hI)
        | 44, h9 =>
          cases h9
          have c33 : _ = (44 : Int) := c33
          refine ⟨1286, rfl, ?_⟩
          refine gx_aload1 (q := 1287) hG d_L_law_1286 rfl ?_
          refine gx_aload0 (q := 1288) hG d_L_law_1287 rfl ?_
          refine gx_iload3 (q := 1289) hG d_L_law_1288 rfl ?_
          refine gx_iconst (q := 1290) hG d_L_law_1289 rfl ?_
          refine gx_iadd (q := 1291) hG d_L_law_1290 rfl ?_
          refine hSd (q := 1292) d_L_law_1291 rfl (by omega) (by omega) ?_
          refine gw_V1X (q := 1295) hG l_L_195 c_X_findings (ev_X_findings (sxR _)) hpX rfl (by decide) (Nat.le_of_ble_eq_true rfl) d_L_law_1292 rfl (by decide) ?_
          refine gx_aload2 (q := 1296) hG d_L_law_1295 rfl ?_
          refine gx_aload0 (q := 1297) hG d_L_law_1296 rfl ?_
          refine gx_iload3 (q := 1298) hG d_L_law_1297 rfl ?_
          refine gx_iconst (q := 1299) hG d_L_law_1298 rfl ?_
          refine gx_iadd (q := 1300) hG d_L_law_1299 rfl ?_
          refine hSd (q := 1301) d_L_law_1300 rfl (by omega) (by omega) ?_
          refine gw_V1X (q := 1304) hG l_L_198 c_M_findings (ev_M_findings (sxR _)) hpM rfl (by decide) (Nat.le_of_ble_eq_true rfl) d_L_law_1301 rfl (by decide) ?_
          exact gx_icmp_same (tgt := 1323) hG d_L_law_1304 rfl (by rw [hI.2.1]) (nx _ hI)
        | 45, h9 =>
          cases h9
          have c33 : _ = (45 : Int) := c33
          refine ⟨1309, rfl, ?_⟩
          refine gx_aload1 (q := 1310) hG d_L_law_1309 rfl ?_
          refine gw_V0X (q := 1313) hG l_L_199 c_X_digest (ev_X_digest hI.1 hI.2.2) hpX rfl (by decide) (Nat.le_of_ble_eq_true rfl) d_L_law_1310 rfl (by decide) ?_
          refine gx_aload2 (q := 1314) hG d_L_law_1313 rfl ?_
          refine gw_V0J (q := 1317) hG l_L_202 c_M_digest (ev_M_digest (inv_m hI)) hpM rfl (by decide) (Nat.le_of_ble_eq_true rfl) d_L_law_1314 rfl (by decide) (fun z1314 w1314 h1314 => ?_)
          exact gx_lcmp_same hG d_L_law_1317 rfl (by rw [h1314.1, hI.2.1]) (gx_if_eq (tgt := 1323) (q := 1321) hG d_L_law_1318 rfl rfl (by decide) (fun _ => nx _ (inv_sm hI h1314.2)) (fun q => absurd rfl q))
        | i9 + 46, h9 => simp at h9

