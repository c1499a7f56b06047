/-! the law's loop -/
set_option maxHeartbeats 4000000 in
set_option maxRecDepth 100000 in
theorem law_loop {G : Gx} {X : Cx} {b L x sa : Nat} {xs : Nat → Int32} {Q : State → Prop} (k : Ok G X RL "law" cL_law 7 (some .boolean) 100 601024 7293034) (hX : SX G X b L xs) (hL : L ≤ 3072) (hT : TWX G X sa) (hl0 : G.2.2.2.stackTraces = false)
    (hend : ∀ (h : Hp) (nx cz sz : Nat) (lv : List (Nat × Value)), cz ≤ 601024 → sz ≤ 7293034 → Go G X 7 Q cz sz nx 1294 lv [vi 1] h) (f : Nat) :
    ∀ (i nx cz sz : Nat) (N : Nat → Int) (h : Hp), Inv G h x → h (x + 159) = some (al G 1 N) → cz ≤ 160 + i → sz ≤ 6711 + i → i ≤ 3078 → L < i + f → Go G X 7 Q cz sz nx 23 [(0, .ref b), (1, .ref x), (2, .ref (x + 141)), (3, .ref (x + 159)), (4, vi (i : Int))] [] h := by
  induction f with
  | zero =>
    intro i nx cz sz N h hI hla hcz hsz hi hf
    refine g_iload k rfl dL_law_23 ?_
    refine g_aload_n k rfl dL_law_25 ?_
    refine g_slen k hX dL_law_26 ?_
    refine g_bipush k rfl dL_law_27 ?_
    refine g_isub k dL_law_29 ?_
    refine g_icmp_gt k (tgt := 1293) (by omega) (by omega) dL_law_30 (by decide) (fun c => ?_) (fun c => ?_)
    · refine g_iconst k dL_law_1293 ?_
      exact hend h nx cz sz _ (by omega) (by omega)
    · exact absurd c (by omega)
  | succ f ih =>
    intro i nx cz sz N h hI hla hcz hsz hi hf
    have back : ∀ (n2 c2 s2 : Nat) (N2 : Nat → Int) (h2 : Hp), i + 6 ≤ L → Inv G h2 x → h2 (x + 159) = some (al G 1 N2) → c2 ≤ 160 + i + 1 → s2 ≤ 6711 + i + 6 → Go G X 7 Q c2 s2 n2 1287 [(0, .ref b), (1, .ref x), (2, .ref (x + 141)), (3, .ref (x + 159)), (4, vi (i : Int))] [] h2 := by
      intro n2 c2 s2 N2 h2 hi6 hI2 hla2 hc2 hs2
      refine g_iinc k rfl (by decide) rfl rfl dL_law_1287 ?_
      refine g_goto k (tgt := 23) dL_law_1290 (by decide) ?_
      exact ih (i + 6) n2 c2 s2 N2 h2 hI2 hla2 (by omega) (by omega) (by omega) (by omega)
    refine g_iload k rfl dL_law_23 ?_
    refine g_aload_n k rfl dL_law_25 ?_
    refine g_slen k hX dL_law_26 ?_
    refine g_bipush k rfl dL_law_27 ?_
    refine g_isub k dL_law_29 ?_
    refine g_icmp_gt k (tgt := 1293) (by omega) (by omega) dL_law_30 (by decide) (fun c => ?_) (fun c => ?_)
    · refine g_iconst k dL_law_1293 ?_
      exact hend h nx cz sz _ (by omega) (by omega)
    obtain ⟨fs9, o9⟩ := hI.ob
    refine g_aload_n k rfl dL_law_33 ?_
    refine g_iload k rfl dL_law_34 ?_
    refine g_sld k hX i rfl (by omega) (by omega) dL_law_36 ?_
    refine g_bipush k rfl dL_law_37 ?_
    refine g_iandm k 6 (by decide) (by decide) dL_law_39 ?_
    generalize hsw : (xs i).toInt % 2 ^ 6 = sw
    have hs0 : 0 ≤ sw ∧ sw ≤ 63 := by rw [← hsw]; omega
    rcases (show 35 < sw ∨ sw = 0 ∨ sw = 1 ∨ sw = 2 ∨ sw = 3 ∨ sw = 4 ∨ sw = 5 ∨ sw = 6 ∨ sw = 7 ∨ sw = 8 ∨ sw = 9 ∨ sw = 10 ∨ sw = 11 ∨ sw = 12 ∨ sw = 13 ∨ sw = 14 ∨ sw = 15 ∨ sw = 16 ∨ sw = 17 ∨ sw = 18 ∨ sw = 19 ∨ sw = 20 ∨ sw = 21 ∨ sw = 22 ∨ sw = 23 ∨ sw = 24 ∨ sw = 25 ∨ sw = 26 ∨ sw = 27 ∨ sw = 28 ∨ sw = 29 ∨ sw = 30 ∨ sw = 31 ∨ sw = 32 ∨ sw = 33 ∨ sw = 34 ∨ sw = 35 by omega) with c40 | c40 | c40 | c40 | c40 | c40 | c40 | c40 | c40 | c40 | c40 | c40 | c40 | c40 | c40 | c40 | c40 | c40 | c40 | c40 | c40 | c40 | c40 | c40 | c40 | c40 | c40 | c40 | c40 | c40 | c40 | c40 | c40 | c40 | c40 | c40 | c40
    · refine g_tabOut k (tgt := 1287) (by omega) (by omega) dL_law_40 (by decide) ?_
      exact back nx cz sz N h (by omega) hI hla (by omega) (by omega)
    · refine g_tabIn k (off := 160) (tgt := 200) (by omega) (by omega) (by omega) (by rw [c40]; rfl) dL_law_40 (by decide) ?_
      obtain ⟨P1, k1, s1⟩ := sp_feed (nx := nx) hI (iRg (xs (i + 1))) (iRg (xs (i + 2))) (iRg (xs (i + 3))) (iRg (xs (i + 4))) (iRg (xs (i + 5)))
      refine g_aload_n k rfl dL_law_200 ?_
      refine g_aload_n k rfl dL_law_201 ?_
      refine g_iload k rfl dL_law_202 ?_
      refine g_iconst k dL_law_204 ?_
      refine g_iadd k dL_law_205 ?_
      refine g_sld k hX (i + 1) (by omega) (by omega) (by omega) dL_law_206 ?_
      refine g_aload_n k rfl dL_law_207 ?_
      refine g_iload k rfl dL_law_208 ?_
      refine g_iconst k dL_law_210 ?_
      refine g_iadd k dL_law_211 ?_
      refine g_sld k hX (i + 2) (by omega) (by omega) (by omega) dL_law_212 ?_
      refine g_aload_n k rfl dL_law_213 ?_
      refine g_iload k rfl dL_law_214 ?_
      refine g_iconst k dL_law_216 ?_
      refine g_iadd k dL_law_217 ?_
      refine g_sld k hX (i + 3) (by omega) (by omega) (by omega) dL_law_218 ?_
      refine g_aload_n k rfl dL_law_219 ?_
      refine g_iload k rfl dL_law_220 ?_
      refine g_iconst k dL_law_222 ?_
      refine g_iadd k dL_law_223 ?_
      refine g_sld k hX (i + 4) (by omega) (by omega) (by omega) dL_law_224 ?_
      refine g_aload_n k rfl dL_law_225 ?_
      refine g_iload k rfl dL_law_226 ?_
      refine g_iconst k dL_law_228 ?_
      refine g_iadd k dL_law_229 ?_
      refine g_sld k hX (i + 5) (by omega) (by omega) (by omega) dL_law_230 ?_
      refine g_cVi k 9 (As := [vi (xs (i + 1)).toInt, vi (xs (i + 2)).toInt, vi (xs (i + 3)).toInt, vi (xs (i + 4)).toInt, vi (xs (i + 5)).toInt]) v_X9_feed rfl rfl o9 ml_L_19 k1 (by omega) (by omega) rfl (Nat.le_of_ble_eq_true rfl) rfl dL_law_231 (fun z1 h1 q1 => ?_)
      obtain ⟨⟨fs10, o10⟩, P2, k2, s2⟩ := s1 z1 h1 q1
      refine g_aload_n k rfl dL_law_234 ?_
      refine g_aload_n k rfl dL_law_235 ?_
      refine g_iload k rfl dL_law_236 ?_
      refine g_iconst k dL_law_238 ?_
      refine g_iadd k dL_law_239 ?_
      refine g_sld k hX (i + 1) (by omega) (by omega) (by omega) dL_law_240 ?_
      refine g_aload_n k rfl dL_law_241 ?_
      refine g_iload k rfl dL_law_242 ?_
      refine g_iconst k dL_law_244 ?_
      refine g_iadd k dL_law_245 ?_
      refine g_sld k hX (i + 2) (by omega) (by omega) (by omega) dL_law_246 ?_
      refine g_aload_n k rfl dL_law_247 ?_
      refine g_iload k rfl dL_law_248 ?_
      refine g_iconst k dL_law_250 ?_
      refine g_iadd k dL_law_251 ?_
      refine g_sld k hX (i + 3) (by omega) (by omega) (by omega) dL_law_252 ?_
      refine g_aload_n k rfl dL_law_253 ?_
      refine g_iload k rfl dL_law_254 ?_
      refine g_iconst k dL_law_256 ?_
      refine g_iadd k dL_law_257 ?_
      refine g_sld k hX (i + 4) (by omega) (by omega) (by omega) dL_law_258 ?_
      refine g_aload_n k rfl dL_law_259 ?_
      refine g_iload k rfl dL_law_260 ?_
      refine g_iconst k dL_law_262 ?_
      refine g_iadd k dL_law_263 ?_
      refine g_sld k hX (i + 5) (by omega) (by omega) (by omega) dL_law_264 ?_
      refine g_cVi k 10 (As := [vi (xs (i + 1)).toInt, vi (xs (i + 2)).toInt, vi (xs (i + 3)).toInt, vi (xs (i + 4)).toInt, vi (xs (i + 5)).toInt]) v_X10_feed rfl rfl o10 ml_L_23 k2 (by omega) (by omega) rfl (Nat.le_of_ble_eq_true rfl) rfl dL_law_265 (fun z2 h2 q2 => ?_)
      obtain ⟨ee, hI2, fr⟩ := s2 z2 h2 q2
      subst ee
      refine g_eqj k (tgt := 1287) dL_law_268 (by decide) ?_
      exact back nx cz sz N h2 (by omega) hI2 ((fr _ (by omega)).trans hla) (by omega) (by omega)
    · refine g_tabIn k (off := 233) (tgt := 273) (by omega) (by omega) (by omega) (by rw [c40]; rfl) dL_law_40 (by decide) ?_
      obtain ⟨P1, k1, s1⟩ := sp_end (nx := nx) hI (iRg (xs (i + 1)))
      refine g_aload_n k rfl dL_law_273 ?_
      refine g_aload_n k rfl dL_law_274 ?_
      refine g_iload k rfl dL_law_275 ?_
      refine g_iconst k dL_law_277 ?_
      refine g_iadd k dL_law_278 ?_
      refine g_sld k hX (i + 1) (by omega) (by omega) (by omega) dL_law_279 ?_
      refine g_cVi k 9 (As := [vi (xs (i + 1)).toInt]) v_X9_end rfl rfl o9 ml_L_24 k1 (by omega) (by omega) rfl (Nat.le_of_ble_eq_true rfl) rfl dL_law_280 (fun z1 h1 q1 => ?_)
      obtain ⟨⟨fs10, o10⟩, P2, k2, s2⟩ := s1 z1 h1 q1
      refine g_aload_n k rfl dL_law_283 ?_
      refine g_aload_n k rfl dL_law_284 ?_
      refine g_iload k rfl dL_law_285 ?_
      refine g_iconst k dL_law_287 ?_
      refine g_iadd k dL_law_288 ?_
      refine g_sld k hX (i + 1) (by omega) (by omega) (by omega) dL_law_289 ?_
      refine g_cVi k 10 (As := [vi (xs (i + 1)).toInt]) v_X10_end rfl rfl o10 ml_L_28 k2 (by omega) (by omega) rfl (Nat.le_of_ble_eq_true rfl) rfl dL_law_290 (fun z2 h2 q2 => ?_)
      obtain ⟨ee, hI2, fr⟩ := s2 z2 h2 q2
      subst ee
      refine g_eqj k (tgt := 1287) dL_law_293 (by decide) ?_
      exact back nx cz sz N h2 (by omega) hI2 ((fr _ (by omega)).trans hla) (by omega) (by omega)
    · refine g_tabIn k (off := 258) (tgt := 298) (by omega) (by omega) (by omega) (by rw [c40]; rfl) dL_law_40 (by decide) ?_
      obtain ⟨P1, k1, s1⟩ := sp_notes (nx := nx) hI 
      refine g_aload_n k rfl dL_law_298 ?_
      refine g_cVi k 9 (As := []) v_X9_notes rfl rfl o9 ml_L_29 k1 (by omega) (by omega) rfl (Nat.le_of_ble_eq_true rfl) rfl dL_law_299 (fun z1 h1 q1 => ?_)
      obtain ⟨⟨fs10, o10⟩, P2, k2, s2⟩ := s1 z1 h1 q1
      refine g_aload_n k rfl dL_law_302 ?_
      refine g_cVi k 10 (As := []) v_X10_notes rfl rfl o10 ml_L_33 k2 (by omega) (by omega) rfl (Nat.le_of_ble_eq_true rfl) rfl dL_law_303 (fun z2 h2 q2 => ?_)
      obtain ⟨ee, hI2, fr⟩ := s2 z2 h2 q2
      subst ee
      refine g_eqj k (tgt := 1287) dL_law_306 (by decide) ?_
      exact back nx cz sz N h2 (by omega) hI2 ((fr _ (by omega)).trans hla) (by omega) (by omega)
    · refine g_tabIn k (off := 271) (tgt := 311) (by omega) (by omega) (by omega) (by rw [c40]; rfl) dL_law_40 (by decide) ?_
      obtain ⟨P1, k1, s1⟩ := sp_fault (nx := nx) hI 
      refine g_aload_n k rfl dL_law_311 ?_
      refine g_cVi k 9 (As := []) v_X9_fault rfl rfl o9 ml_L_34 k1 (by omega) (by omega) rfl (Nat.le_of_ble_eq_true rfl) rfl dL_law_312 (fun z1 h1 q1 => ?_)
      obtain ⟨⟨fs10, o10⟩, P2, k2, s2⟩ := s1 z1 h1 q1
      refine g_aload_n k rfl dL_law_315 ?_
      refine g_cVi k 10 (As := []) v_X10_fault rfl rfl o10 ml_L_37 k2 (by omega) (by omega) rfl (Nat.le_of_ble_eq_true rfl) rfl dL_law_316 (fun z2 h2 q2 => ?_)
      obtain ⟨ee, hI2, fr⟩ := s2 z2 h2 q2
      subst ee
      refine g_eqj k (tgt := 1287) dL_law_319 (by decide) ?_
      exact back nx cz sz N h2 (by omega) hI2 ((fr _ (by omega)).trans hla) (by omega) (by omega)
    · refine g_tabIn k (off := 284) (tgt := 324) (by omega) (by omega) (by omega) (by rw [c40]; rfl) dL_law_40 (by decide) ?_
      obtain ⟨P1, k1, s1⟩ := sp_now (nx := nx) hI (iRg (xs (i + 1)))
      refine g_aload_n k rfl dL_law_324 ?_
      refine g_aload_n k rfl dL_law_325 ?_
      refine g_iload k rfl dL_law_326 ?_
      refine g_iconst k dL_law_328 ?_
      refine g_iadd k dL_law_329 ?_
      refine g_sld k hX (i + 1) (by omega) (by omega) (by omega) dL_law_330 ?_
      refine g_cVi k 9 (As := [vi (xs (i + 1)).toInt]) v_X9_now rfl rfl o9 ml_L_38 k1 (by omega) (by omega) rfl (Nat.le_of_ble_eq_true rfl) rfl dL_law_331 (fun z1 h1 q1 => ?_)
      obtain ⟨⟨fs10, o10⟩, P2, k2, s2⟩ := s1 z1 h1 q1
      refine g_aload_n k rfl dL_law_334 ?_
      refine g_aload_n k rfl dL_law_335 ?_
      refine g_iload k rfl dL_law_336 ?_
      refine g_iconst k dL_law_338 ?_
      refine g_iadd k dL_law_339 ?_
      refine g_sld k hX (i + 1) (by omega) (by omega) (by omega) dL_law_340 ?_
      refine g_cVi k 10 (As := [vi (xs (i + 1)).toInt]) v_X10_now rfl rfl o10 ml_L_42 k2 (by omega) (by omega) rfl (Nat.le_of_ble_eq_true rfl) rfl dL_law_341 (fun z2 h2 q2 => ?_)
      obtain ⟨ee, hI2, fr⟩ := s2 z2 h2 q2
      subst ee
      refine g_eqj k (tgt := 1287) dL_law_344 (by decide) ?_
      exact back nx cz sz N h2 (by omega) hI2 ((fr _ (by omega)).trans hla) (by omega) (by omega)
    · refine g_tabIn k (off := 309) (tgt := 349) (by omega) (by omega) (by omega) (by rw [c40]; rfl) dL_law_40 (by decide) ?_
      obtain ⟨it, φ, ps, im, V, n, T, ft, hF, hM, hV⟩ := id hI
      have rp := iRg (xs (i + 1))
      have rp2 := iRg (xs (i + 2))
      refine g_aload_n k rfl dL_law_349 ?_
      refine g_aload_n k rfl dL_law_350 ?_
      refine g_iload k rfl dL_law_351 ?_
      refine g_iconst k dL_law_353 ?_
      refine g_iadd k dL_law_354 ?_
      refine g_sld k hX (i + 1) (by omega) (by omega) (by omega) dL_law_355 ?_
      refine g_aload_n k rfl dL_law_356 ?_
      refine g_iload k rfl dL_law_357 ?_
      refine g_iconst k dL_law_359 ?_
      refine g_iadd k dL_law_360 ?_
      refine g_sld k hX (i + 2) (by omega) (by omega) (by omega) dL_law_361 ?_
      refine g_aload_n k rfl dL_law_362 ?_
      refine g_lfact k hT (As := [.ref x, vi (xs (i + 1)).toInt, vi (xs (i + 2)).toInt, .ref (x + 159)]) (t_L_fact (nx := nx) (sa := sa) hF hV.1 hl0 rp rp2 hla) (by omega) (by omega) rfl (Nat.le_of_ble_eq_true rfl) rfl dL_law_363 (fun z h9 n2 hn2 hz => ?_)
      have key : ∃ N9 : Nat → Int, SF G h9 x it φ ps im V n T ft ∧ MS G h9 (x + 141) it φ ps im V n T ft ∧ h9 (x + 159) = some (al G 1 N9) ∧ bz (¬ fcO φ (xs (i + 1)).toInt (xs (i + 2)).toInt) z ∧ (fcO φ (xs (i + 1)).toInt (xs (i + 2)).toInt → N9 0 = fcV φ (xs (i + 1)).toInt (xs (i + 2)).toInt) := by
        rcases hz with ⟨rfl, ho, rfl⟩ | ⟨rfl, ho, rfl⟩
        · exact ⟨_, hF.keep (fun q g1 g2 => hup_n (by omega)), hM.keep (fun q g1 g2 => hup_n (by omega)), hup_s, bz.n (fun c => c ho), fun _ => fu_s⟩
        · exact ⟨N, hF, hM, hla, bz.y ho, fun c => absurd c ho⟩
      obtain ⟨N9, F9, M9, l9, bz9, e9⟩ := key
      obtain ⟨fs10, o10⟩ := M9.ob
      have hzr := bz9.r
      refine g_istore k (by decide) rfl rfl dL_law_366 ?_
      refine g_aload_n k rfl dL_law_368 ?_
      refine g_aload_n k rfl dL_law_369 ?_
      refine g_iload k rfl dL_law_370 ?_
      refine g_iconst k dL_law_372 ?_
      refine g_iadd k dL_law_373 ?_
      refine g_sld k hX (i + 1) (by omega) (by omega) (by omega) dL_law_374 ?_
      refine g_aload_n k rfl dL_law_375 ?_
      refine g_iload k rfl dL_law_376 ?_
      refine g_iconst k dL_law_378 ?_
      refine g_iadd k dL_law_379 ?_
      refine g_sld k hX (i + 2) (by omega) (by omega) (by omega) dL_law_380 ?_
      refine g_cVi k 10 (As := [vi (xs (i + 1)).toInt, vi (xs (i + 2)).toInt]) v_X10_fact rfl rfl o10 ml_L_48 (c_X10_fact M9 hV.1 rp rp2) (by omega) (by omega) rfl (Nat.le_of_ble_eq_true rfl) rfl dL_law_381 (fun z2 h2 q2 => ?_)
      obtain ⟨e2, ⟨t1, b1, M2⟩, f2⟩ := q2
      obtain ⟨s2, ⟨c0, crest⟩, hsc, hs0⟩ := id M2
      refine g_istore k (by decide) rfl rfl dL_law_384 ?_
      refine g_aload_n k rfl dL_law_386 ?_
      refine g_cVi k 10 (As := []) v_X10_thrown rfl rfl c0 ml_L_49 (c_X10_thrown c0) (by omega) (by omega) rfl (Nat.le_of_ble_eq_true rfl) rfl dL_law_387 (fun z3 h3 q3 => ?_)
      obtain ⟨e3, e4⟩ := q3
      subst e3
      have e5 : z3 = z := e4.trans (hs0.trans (bz_e b1 bz9))
      subst e5
      have hI2 : Inv G h3 x := ⟨it, φ, ps, im, V, n, T, ft, F9.keep (fun q g1 g2 => f2 q (by omega)), ⟨t1, M2⟩, hV⟩
      have l2 : h3 (x + 159) = some (al G 1 N9) := (f2 _ (by omega)).trans l9
      refine g_iload k rfl dL_law_390 ?_
      refine g_eqj k (tgt := 397) dL_law_392 (by decide) ?_
      have fin : ∀ st : List (Nat × Value), lsb st [(0, .ref b), (1, .ref x), (2, .ref (x + 141)), (3, .ref (x + 159)), (4, vi (i : Int))] → Go G X 7 Q (cz + 1) (sz + 6) n2 414 st [] h3 := by
        intro st hst
        refine g_goto k (tgt := 1287) dL_law_414 (by decide) ?_
        exact g_less hst (back n2 (cz + 1) (sz + 6) N9 h3 (by omega) hI2 l2 (by omega) (by omega))
      refine g_iload k rfl dL_law_397 ?_
      refine g_if_ne k (tgt := 414) (by omega) dL_law_399 (by decide) (fun c => ?_) (fun c => ?_)
      · exact fin _ ⟨rfl, rfl, rfl, rfl, rfl, trivial⟩
      have hfc : fcO φ (xs (i + 1)).toInt (xs (i + 2)).toInt := Classical.byContradiction (bz9.f (by omega))
      have hr := fcV_r hV.1 hfc
      refine g_aload_n k rfl dL_law_402 ?_
      refine g_iconst k dL_law_403 ?_
      refine g_lald k 0 l2 (by omega) (by omega) (by decide) dL_law_404 ?_
      rw [show N9 0 = fcV φ (xs (i + 1)).toInt (xs (i + 2)).toInt from e9 hfc]
      refine g_iload k rfl dL_law_405 ?_
      rw [e2 hfc]
      refine g_i2l k (by omega) dL_law_407 ?_
      refine g_lcmp k (by omega) (by omega) dL_law_408 ?_
      rw [if_neg (Int.lt_irrefl _), if_pos rfl]
      refine g_if_eq k (tgt := 414) (by omega) dL_law_409 (by decide) (fun c => ?_) (fun c => absurd rfl c)
      exact fin _ ⟨rfl, rfl, rfl, rfl, rfl, trivial⟩
    · refine g_tabIn k (off := 377) (tgt := 417) (by omega) (by omega) (by omega) (by rw [c40]; rfl) dL_law_40 (by decide) ?_
      obtain ⟨P1, k1, s1⟩ := sp_about (nx := nx) hI (iRg (xs (i + 1))) (iRg (xs (i + 2)))
      refine g_aload_n k rfl dL_law_417 ?_
      refine g_aload_n k rfl dL_law_418 ?_
      refine g_iload k rfl dL_law_419 ?_
      refine g_iconst k dL_law_421 ?_
      refine g_iadd k dL_law_422 ?_
      refine g_sld k hX (i + 1) (by omega) (by omega) (by omega) dL_law_423 ?_
      refine g_aload_n k rfl dL_law_424 ?_
      refine g_iload k rfl dL_law_425 ?_
      refine g_iconst k dL_law_427 ?_
      refine g_iadd k dL_law_428 ?_
      refine g_sld k hX (i + 2) (by omega) (by omega) (by omega) dL_law_429 ?_
      refine g_cVi k 9 (As := [vi (xs (i + 1)).toInt, vi (xs (i + 2)).toInt]) v_X9_about rfl rfl o9 ml_L_52 k1 (by omega) (by omega) rfl (Nat.le_of_ble_eq_true rfl) rfl dL_law_430 (fun z1 h1 q1 => ?_)
      obtain ⟨⟨fs10, o10⟩, P2, k2, s2⟩ := s1 z1 h1 q1
      refine g_aload_n k rfl dL_law_433 ?_
      refine g_aload_n k rfl dL_law_434 ?_
      refine g_iload k rfl dL_law_435 ?_
      refine g_iconst k dL_law_437 ?_
      refine g_iadd k dL_law_438 ?_
      refine g_sld k hX (i + 1) (by omega) (by omega) (by omega) dL_law_439 ?_
      refine g_aload_n k rfl dL_law_440 ?_
      refine g_iload k rfl dL_law_441 ?_
      refine g_iconst k dL_law_443 ?_
      refine g_iadd k dL_law_444 ?_
      refine g_sld k hX (i + 2) (by omega) (by omega) (by omega) dL_law_445 ?_
      refine g_cVi k 10 (As := [vi (xs (i + 1)).toInt, vi (xs (i + 2)).toInt]) v_X10_about rfl rfl o10 ml_L_55 k2 (by omega) (by omega) rfl (Nat.le_of_ble_eq_true rfl) rfl dL_law_446 (fun z2 h2 q2 => ?_)
      obtain ⟨ee, hI2, fr⟩ := s2 z2 h2 q2
      subst ee
      refine g_eqj k (tgt := 1287) dL_law_449 (by decide) ?_
      exact back nx cz sz N h2 (by omega) hI2 ((fr _ (by omega)).trans hla) (by omega) (by omega)
    · refine g_tabIn k (off := 414) (tgt := 454) (by omega) (by omega) (by omega) (by rw [c40]; rfl) dL_law_40 (by decide) ?_
      obtain ⟨P1, k1, s1⟩ := sp_tell (nx := nx) hI (iRg (xs (i + 1))) (iRg (xs (i + 2))) (iRg (xs (i + 3)))
      refine g_aload_n k rfl dL_law_454 ?_
      refine g_aload_n k rfl dL_law_455 ?_
      refine g_iload k rfl dL_law_456 ?_
      refine g_iconst k dL_law_458 ?_
      refine g_iadd k dL_law_459 ?_
      refine g_sld k hX (i + 1) (by omega) (by omega) (by omega) dL_law_460 ?_
      refine g_aload_n k rfl dL_law_461 ?_
      refine g_iload k rfl dL_law_462 ?_
      refine g_iconst k dL_law_464 ?_
      refine g_iadd k dL_law_465 ?_
      refine g_sld k hX (i + 2) (by omega) (by omega) (by omega) dL_law_466 ?_
      refine g_aload_n k rfl dL_law_467 ?_
      refine g_iload k rfl dL_law_468 ?_
      refine g_iconst k dL_law_470 ?_
      refine g_iadd k dL_law_471 ?_
      refine g_sld k hX (i + 3) (by omega) (by omega) (by omega) dL_law_472 ?_
      refine g_cVi k 9 (As := [vi (xs (i + 1)).toInt, vi (xs (i + 2)).toInt, vi (xs (i + 3)).toInt]) v_X9_tell rfl rfl o9 ml_L_56 k1 (by omega) (by omega) rfl (Nat.le_of_ble_eq_true rfl) rfl dL_law_473 (fun z1 h1 q1 => ?_)
      obtain ⟨⟨fs10, o10⟩, P2, k2, s2⟩ := s1 z1 h1 q1
      refine g_aload_n k rfl dL_law_476 ?_
      refine g_aload_n k rfl dL_law_477 ?_
      refine g_iload k rfl dL_law_478 ?_
      refine g_iconst k dL_law_480 ?_
      refine g_iadd k dL_law_481 ?_
      refine g_sld k hX (i + 1) (by omega) (by omega) (by omega) dL_law_482 ?_
      refine g_aload_n k rfl dL_law_483 ?_
      refine g_iload k rfl dL_law_484 ?_
      refine g_iconst k dL_law_486 ?_
      refine g_iadd k dL_law_487 ?_
      refine g_sld k hX (i + 2) (by omega) (by omega) (by omega) dL_law_488 ?_
      refine g_aload_n k rfl dL_law_489 ?_
      refine g_iload k rfl dL_law_490 ?_
      refine g_iconst k dL_law_492 ?_
      refine g_iadd k dL_law_493 ?_
      refine g_sld k hX (i + 3) (by omega) (by omega) (by omega) dL_law_494 ?_
      refine g_cVi k 10 (As := [vi (xs (i + 1)).toInt, vi (xs (i + 2)).toInt, vi (xs (i + 3)).toInt]) v_X10_tell rfl rfl o10 ml_L_60 k2 (by omega) (by omega) rfl (Nat.le_of_ble_eq_true rfl) rfl dL_law_495 (fun z2 h2 q2 => ?_)
      obtain ⟨ee, hI2, fr⟩ := s2 z2 h2 q2
      subst ee
      refine g_eqj k (tgt := 1287) dL_law_498 (by decide) ?_
      exact back nx cz sz N h2 (by omega) hI2 ((fr _ (by omega)).trans hla) (by omega) (by omega)
    · refine g_tabIn k (off := 463) (tgt := 503) (by omega) (by omega) (by omega) (by rw [c40]; rfl) dL_law_40 (by decide) ?_
      obtain ⟨P1, k1, s1⟩ := sp_refuted (nx := nx) hI (iRg (xs (i + 1)))
      refine g_aload_n k rfl dL_law_503 ?_
      refine g_aload_n k rfl dL_law_504 ?_
      refine g_iload k rfl dL_law_505 ?_
      refine g_iconst k dL_law_507 ?_
      refine g_iadd k dL_law_508 ?_
      refine g_sld k hX (i + 1) (by omega) (by omega) (by omega) dL_law_509 ?_
      refine g_cVi k 9 (As := [vi (xs (i + 1)).toInt]) v_X9_refuted rfl rfl o9 ml_L_61 k1 (by omega) (by omega) rfl (Nat.le_of_ble_eq_true rfl) rfl dL_law_510 (fun z1 h1 q1 => ?_)
      obtain ⟨⟨fs10, o10⟩, P2, k2, s2⟩ := s1 z1 h1 q1
      refine g_aload_n k rfl dL_law_513 ?_
      refine g_aload_n k rfl dL_law_514 ?_
      refine g_iload k rfl dL_law_515 ?_
      refine g_iconst k dL_law_517 ?_
      refine g_iadd k dL_law_518 ?_
      refine g_sld k hX (i + 1) (by omega) (by omega) (by omega) dL_law_519 ?_
      refine g_cVi k 10 (As := [vi (xs (i + 1)).toInt]) v_X10_refuted rfl rfl o10 ml_L_64 k2 (by omega) (by omega) rfl (Nat.le_of_ble_eq_true rfl) rfl dL_law_520 (fun z2 h2 q2 => ?_)
      obtain ⟨ee, hI2, fr⟩ := s2 z2 h2 q2
      subst ee
      refine g_eqj k (tgt := 1287) dL_law_523 (by decide) ?_
      exact back nx cz sz N h2 (by omega) hI2 ((fr _ (by omega)).trans hla) (by omega) (by omega)
    · refine g_tabIn k (off := 488) (tgt := 528) (by omega) (by omega) (by omega) (by rw [c40]; rfl) dL_law_40 (by decide) ?_
      obtain ⟨P1, k1, s1⟩ := sp_ring (nx := nx) hI (iRg (xs (i + 1)))
      refine g_aload_n k rfl dL_law_528 ?_
      refine g_aload_n k rfl dL_law_529 ?_
      refine g_iload k rfl dL_law_530 ?_
      refine g_iconst k dL_law_532 ?_
      refine g_iadd k dL_law_533 ?_
      refine g_sld k hX (i + 1) (by omega) (by omega) (by omega) dL_law_534 ?_
      refine g_cVi k 9 (As := [vi (xs (i + 1)).toInt]) v_X9_ring rfl rfl o9 ml_L_65 k1 (by omega) (by omega) rfl (Nat.le_of_ble_eq_true rfl) rfl dL_law_535 (fun z1 h1 q1 => ?_)
      obtain ⟨⟨fs10, o10⟩, P2, k2, s2⟩ := s1 z1 h1 q1
      refine g_aload_n k rfl dL_law_538 ?_
      refine g_aload_n k rfl dL_law_539 ?_
      refine g_iload k rfl dL_law_540 ?_
      refine g_iconst k dL_law_542 ?_
      refine g_iadd k dL_law_543 ?_
      refine g_sld k hX (i + 1) (by omega) (by omega) (by omega) dL_law_544 ?_
      refine g_cVi k 10 (As := [vi (xs (i + 1)).toInt]) v_X10_ring rfl rfl o10 ml_L_68 k2 (by omega) (by omega) rfl (Nat.le_of_ble_eq_true rfl) rfl dL_law_545 (fun z2 h2 q2 => ?_)
      obtain ⟨ee, hI2, fr⟩ := s2 z2 h2 q2
      subst ee
      refine g_eqj k (tgt := 1287) dL_law_548 (by decide) ?_
      exact back nx cz sz N h2 (by omega) hI2 ((fr _ (by omega)).trans hla) (by omega) (by omega)
    · refine g_tabIn k (off := 513) (tgt := 553) (by omega) (by omega) (by omega) (by rw [c40]; rfl) dL_law_40 (by decide) ?_
      obtain ⟨P1, k1, s1⟩ := sp_forget (nx := nx) hI (iRg (xs (i + 1)))
      refine g_aload_n k rfl dL_law_553 ?_
      refine g_aload_n k rfl dL_law_554 ?_
      refine g_iload k rfl dL_law_555 ?_
      refine g_iconst k dL_law_557 ?_
      refine g_iadd k dL_law_558 ?_
      refine g_sld k hX (i + 1) (by omega) (by omega) (by omega) dL_law_559 ?_
      refine g_cVi k 9 (As := [vi (xs (i + 1)).toInt]) v_X9_forget rfl rfl o9 ml_L_69 k1 (by omega) (by omega) rfl (Nat.le_of_ble_eq_true rfl) rfl dL_law_560 (fun z1 h1 q1 => ?_)
      obtain ⟨⟨fs10, o10⟩, P2, k2, s2⟩ := s1 z1 h1 q1
      refine g_aload_n k rfl dL_law_563 ?_
      refine g_aload_n k rfl dL_law_564 ?_
      refine g_iload k rfl dL_law_565 ?_
      refine g_iconst k dL_law_567 ?_
      refine g_iadd k dL_law_568 ?_
      refine g_sld k hX (i + 1) (by omega) (by omega) (by omega) dL_law_569 ?_
      refine g_cVi k 10 (As := [vi (xs (i + 1)).toInt]) v_X10_forget rfl rfl o10 ml_L_72 k2 (by omega) (by omega) rfl (Nat.le_of_ble_eq_true rfl) rfl dL_law_570 (fun z2 h2 q2 => ?_)
      obtain ⟨ee, hI2, fr⟩ := s2 z2 h2 q2
      subst ee
      refine g_eqj k (tgt := 1287) dL_law_573 (by decide) ?_
      exact back nx cz sz N h2 (by omega) hI2 ((fr _ (by omega)).trans hla) (by omega) (by omega)
    · refine g_tabIn k (off := 538) (tgt := 578) (by omega) (by omega) (by omega) (by rw [c40]; rfl) dL_law_40 (by decide) ?_
      obtain ⟨P1, k1, s1⟩ := sp_begin (nx := nx) hI (iRg (xs (i + 1))) (iRg (xs (i + 2)))
      refine g_aload_n k rfl dL_law_578 ?_
      refine g_aload_n k rfl dL_law_579 ?_
      refine g_iload k rfl dL_law_580 ?_
      refine g_iconst k dL_law_582 ?_
      refine g_iadd k dL_law_583 ?_
      refine g_sld k hX (i + 1) (by omega) (by omega) (by omega) dL_law_584 ?_
      refine g_aload_n k rfl dL_law_585 ?_
      refine g_iload k rfl dL_law_586 ?_
      refine g_iconst k dL_law_588 ?_
      refine g_iadd k dL_law_589 ?_
      refine g_sld k hX (i + 2) (by omega) (by omega) (by omega) dL_law_590 ?_
      refine g_cVi k 9 (As := [vi (xs (i + 1)).toInt, vi (xs (i + 2)).toInt]) v_X9_begin rfl rfl o9 ml_L_73 k1 (by omega) (by omega) rfl (Nat.le_of_ble_eq_true rfl) rfl dL_law_591 (fun z1 h1 q1 => ?_)
      obtain ⟨⟨fs10, o10⟩, P2, k2, s2⟩ := s1 z1 h1 q1
      refine g_aload_n k rfl dL_law_594 ?_
      refine g_aload_n k rfl dL_law_595 ?_
      refine g_iload k rfl dL_law_596 ?_
      refine g_iconst k dL_law_598 ?_
      refine g_iadd k dL_law_599 ?_
      refine g_sld k hX (i + 1) (by omega) (by omega) (by omega) dL_law_600 ?_
      refine g_aload_n k rfl dL_law_601 ?_
      refine g_iload k rfl dL_law_602 ?_
      refine g_iconst k dL_law_604 ?_
      refine g_iadd k dL_law_605 ?_
      refine g_sld k hX (i + 2) (by omega) (by omega) (by omega) dL_law_606 ?_
      refine g_cVi k 10 (As := [vi (xs (i + 1)).toInt, vi (xs (i + 2)).toInt]) v_X10_begin rfl rfl o10 ml_L_76 k2 (by omega) (by omega) rfl (Nat.le_of_ble_eq_true rfl) rfl dL_law_607 (fun z2 h2 q2 => ?_)
      obtain ⟨ee, hI2, fr⟩ := s2 z2 h2 q2
      subst ee
      refine g_eqj k (tgt := 1287) dL_law_610 (by decide) ?_
      exact back nx cz sz N h2 (by omega) hI2 ((fr _ (by omega)).trans hla) (by omega) (by omega)
    · refine g_tabIn k (off := 575) (tgt := 615) (by omega) (by omega) (by omega) (by rw [c40]; rfl) dL_law_40 (by decide) ?_
      obtain ⟨P1, k1, s1⟩ := sp_gap (nx := nx) hI (iRg (xs (i + 1))) (iRg (xs (i + 2))) (iRg (xs (i + 3))) (iRg (xs (i + 4)))
      refine g_aload_n k rfl dL_law_615 ?_
      refine g_aload_n k rfl dL_law_616 ?_
      refine g_iload k rfl dL_law_617 ?_
      refine g_iconst k dL_law_619 ?_
      refine g_iadd k dL_law_620 ?_
      refine g_sld k hX (i + 1) (by omega) (by omega) (by omega) dL_law_621 ?_
      refine g_aload_n k rfl dL_law_622 ?_
      refine g_iload k rfl dL_law_623 ?_
      refine g_iconst k dL_law_625 ?_
      refine g_iadd k dL_law_626 ?_
      refine g_sld k hX (i + 2) (by omega) (by omega) (by omega) dL_law_627 ?_
      refine g_aload_n k rfl dL_law_628 ?_
      refine g_iload k rfl dL_law_629 ?_
      refine g_iconst k dL_law_631 ?_
      refine g_iadd k dL_law_632 ?_
      refine g_sld k hX (i + 3) (by omega) (by omega) (by omega) dL_law_633 ?_
      refine g_aload_n k rfl dL_law_634 ?_
      refine g_iload k rfl dL_law_635 ?_
      refine g_iconst k dL_law_637 ?_
      refine g_iadd k dL_law_638 ?_
      refine g_sld k hX (i + 4) (by omega) (by omega) (by omega) dL_law_639 ?_
      refine g_cVi k 9 (As := [vi (xs (i + 1)).toInt, vi (xs (i + 2)).toInt, vi (xs (i + 3)).toInt, vi (xs (i + 4)).toInt]) v_X9_gap rfl rfl o9 ml_L_77 k1 (by omega) (by omega) rfl (Nat.le_of_ble_eq_true rfl) rfl dL_law_640 (fun z1 h1 q1 => ?_)
      obtain ⟨⟨fs10, o10⟩, P2, k2, s2⟩ := s1 z1 h1 q1
      refine g_aload_n k rfl dL_law_643 ?_
      refine g_aload_n k rfl dL_law_644 ?_
      refine g_iload k rfl dL_law_645 ?_
      refine g_iconst k dL_law_647 ?_
      refine g_iadd k dL_law_648 ?_
      refine g_sld k hX (i + 1) (by omega) (by omega) (by omega) dL_law_649 ?_
      refine g_aload_n k rfl dL_law_650 ?_
      refine g_iload k rfl dL_law_651 ?_
      refine g_iconst k dL_law_653 ?_
      refine g_iadd k dL_law_654 ?_
      refine g_sld k hX (i + 2) (by omega) (by omega) (by omega) dL_law_655 ?_
      refine g_aload_n k rfl dL_law_656 ?_
      refine g_iload k rfl dL_law_657 ?_
      refine g_iconst k dL_law_659 ?_
      refine g_iadd k dL_law_660 ?_
      refine g_sld k hX (i + 3) (by omega) (by omega) (by omega) dL_law_661 ?_
      refine g_aload_n k rfl dL_law_662 ?_
      refine g_iload k rfl dL_law_663 ?_
      refine g_iconst k dL_law_665 ?_
      refine g_iadd k dL_law_666 ?_
      refine g_sld k hX (i + 4) (by omega) (by omega) (by omega) dL_law_667 ?_
      refine g_cVi k 10 (As := [vi (xs (i + 1)).toInt, vi (xs (i + 2)).toInt, vi (xs (i + 3)).toInt, vi (xs (i + 4)).toInt]) v_X10_gap rfl rfl o10 ml_L_81 k2 (by omega) (by omega) rfl (Nat.le_of_ble_eq_true rfl) rfl dL_law_668 (fun z2 h2 q2 => ?_)
      obtain ⟨ee, hI2, fr⟩ := s2 z2 h2 q2
      subst ee
      refine g_eqj k (tgt := 1287) dL_law_671 (by decide) ?_
      exact back nx cz sz N h2 (by omega) hI2 ((fr _ (by omega)).trans hla) (by omega) (by omega)
    · refine g_tabIn k (off := 636) (tgt := 676) (by omega) (by omega) (by omega) (by rw [c40]; rfl) dL_law_40 (by decide) ?_
      obtain ⟨P1, k1, s1⟩ := sp_tight (nx := nx) hI (iRg (xs (i + 1)))
      refine g_aload_n k rfl dL_law_676 ?_
      refine g_aload_n k rfl dL_law_677 ?_
      refine g_iload k rfl dL_law_678 ?_
      refine g_iconst k dL_law_680 ?_
      refine g_iadd k dL_law_681 ?_
      refine g_sld k hX (i + 1) (by omega) (by omega) (by omega) dL_law_682 ?_
      refine g_cVi k 9 (As := [vi (xs (i + 1)).toInt]) v_X9_tight rfl rfl o9 ml_L_82 k1 (by omega) (by omega) rfl (Nat.le_of_ble_eq_true rfl) rfl dL_law_683 (fun z1 h1 q1 => ?_)
      obtain ⟨⟨fs10, o10⟩, P2, k2, s2⟩ := s1 z1 h1 q1
      refine g_aload_n k rfl dL_law_686 ?_
      refine g_aload_n k rfl dL_law_687 ?_
      refine g_iload k rfl dL_law_688 ?_
      refine g_iconst k dL_law_690 ?_
      refine g_iadd k dL_law_691 ?_
      refine g_sld k hX (i + 1) (by omega) (by omega) (by omega) dL_law_692 ?_
      refine g_cVi k 10 (As := [vi (xs (i + 1)).toInt]) v_X10_tight rfl rfl o10 ml_L_85 k2 (by omega) (by omega) rfl (Nat.le_of_ble_eq_true rfl) rfl dL_law_693 (fun z2 h2 q2 => ?_)
      obtain ⟨ee, hI2, fr⟩ := s2 z2 h2 q2
      subst ee
      refine g_eqj k (tgt := 1287) dL_law_696 (by decide) ?_
      exact back nx cz sz N h2 (by omega) hI2 ((fr _ (by omega)).trans hla) (by omega) (by omega)
    · refine g_tabIn k (off := 661) (tgt := 701) (by omega) (by omega) (by omega) (by rw [c40]; rfl) dL_law_40 (by decide) ?_
      obtain ⟨P1, k1, s1⟩ := sp_may (nx := nx) hI (iRg (xs (i + 1))) (iRg (xs (i + 2)))
      refine g_aload_n k rfl dL_law_701 ?_
      refine g_aload_n k rfl dL_law_702 ?_
      refine g_iload k rfl dL_law_703 ?_
      refine g_iconst k dL_law_705 ?_
      refine g_iadd k dL_law_706 ?_
      refine g_sld k hX (i + 1) (by omega) (by omega) (by omega) dL_law_707 ?_
      refine g_aload_n k rfl dL_law_708 ?_
      refine g_iload k rfl dL_law_709 ?_
      refine g_iconst k dL_law_711 ?_
      refine g_iadd k dL_law_712 ?_
      refine g_sld k hX (i + 2) (by omega) (by omega) (by omega) dL_law_713 ?_
      refine g_cVi k 9 (As := [vi (xs (i + 1)).toInt, vi (xs (i + 2)).toInt]) v_X9_may rfl rfl o9 ml_L_86 k1 (by omega) (by omega) rfl (Nat.le_of_ble_eq_true rfl) rfl dL_law_714 (fun z1 h1 q1 => ?_)
      obtain ⟨⟨fs10, o10⟩, P2, k2, s2⟩ := s1 z1 h1 q1
      refine g_aload_n k rfl dL_law_717 ?_
      refine g_aload_n k rfl dL_law_718 ?_
      refine g_iload k rfl dL_law_719 ?_
      refine g_iconst k dL_law_721 ?_
      refine g_iadd k dL_law_722 ?_
      refine g_sld k hX (i + 1) (by omega) (by omega) (by omega) dL_law_723 ?_
      refine g_aload_n k rfl dL_law_724 ?_
      refine g_iload k rfl dL_law_725 ?_
      refine g_iconst k dL_law_727 ?_
      refine g_iadd k dL_law_728 ?_
      refine g_sld k hX (i + 2) (by omega) (by omega) (by omega) dL_law_729 ?_
      refine g_cVi k 10 (As := [vi (xs (i + 1)).toInt, vi (xs (i + 2)).toInt]) v_X10_may rfl rfl o10 ml_L_89 k2 (by omega) (by omega) rfl (Nat.le_of_ble_eq_true rfl) rfl dL_law_730 (fun z2 h2 q2 => ?_)
      obtain ⟨ee, hI2, fr⟩ := s2 z2 h2 q2
      subst ee
      refine g_eqj k (tgt := 1287) dL_law_733 (by decide) ?_
      exact back nx cz sz N h2 (by omega) hI2 ((fr _ (by omega)).trans hla) (by omega) (by omega)
    · refine g_tabIn k (off := 698) (tgt := 738) (by omega) (by omega) (by omega) (by rw [c40]; rfl) dL_law_40 (by decide) ?_
      obtain ⟨P1, k1, s1⟩ := sp_ways (nx := nx) hI 
      refine g_aload_n k rfl dL_law_738 ?_
      refine g_cVi k 9 (As := []) v_X9_ways rfl rfl o9 ml_L_90 k1 (by omega) (by omega) rfl (Nat.le_of_ble_eq_true rfl) rfl dL_law_739 (fun z1 h1 q1 => ?_)
      obtain ⟨⟨fs10, o10⟩, P2, k2, s2⟩ := s1 z1 h1 q1
      refine g_aload_n k rfl dL_law_742 ?_
      refine g_cVi k 10 (As := []) v_X10_ways rfl rfl o10 ml_L_93 k2 (by omega) (by omega) rfl (Nat.le_of_ble_eq_true rfl) rfl dL_law_743 (fun z2 h2 q2 => ?_)
      obtain ⟨ee, hI2, fr⟩ := s2 z2 h2 q2
      subst ee
      refine g_eqj k (tgt := 1287) dL_law_746 (by decide) ?_
      exact back nx cz sz N h2 (by omega) hI2 ((fr _ (by omega)).trans hla) (by omega) (by omega)
    · refine g_tabIn k (off := 711) (tgt := 751) (by omega) (by omega) (by omega) (by rw [c40]; rfl) dL_law_40 (by decide) ?_
      obtain ⟨P1, k1, s1⟩ := sp_test (nx := nx) hI (iRg (xs (i + 1))) (iRg (xs (i + 2))) (iRg (xs (i + 3)))
      refine g_aload_n k rfl dL_law_751 ?_
      refine g_aload_n k rfl dL_law_752 ?_
      refine g_iload k rfl dL_law_753 ?_
      refine g_iconst k dL_law_755 ?_
      refine g_iadd k dL_law_756 ?_
      refine g_sld k hX (i + 1) (by omega) (by omega) (by omega) dL_law_757 ?_
      refine g_aload_n k rfl dL_law_758 ?_
      refine g_iload k rfl dL_law_759 ?_
      refine g_iconst k dL_law_761 ?_
      refine g_iadd k dL_law_762 ?_
      refine g_sld k hX (i + 2) (by omega) (by omega) (by omega) dL_law_763 ?_
      refine g_aload_n k rfl dL_law_764 ?_
      refine g_iload k rfl dL_law_765 ?_
      refine g_iconst k dL_law_767 ?_
      refine g_iadd k dL_law_768 ?_
      refine g_sld k hX (i + 3) (by omega) (by omega) (by omega) dL_law_769 ?_
      refine g_cVi k 9 (As := [vi (xs (i + 1)).toInt, vi (xs (i + 2)).toInt, vi (xs (i + 3)).toInt]) v_X9_test rfl rfl o9 ml_L_94 k1 (by omega) (by omega) rfl (Nat.le_of_ble_eq_true rfl) rfl dL_law_770 (fun z1 h1 q1 => ?_)
      obtain ⟨⟨fs10, o10⟩, P2, k2, s2⟩ := s1 z1 h1 q1
      refine g_aload_n k rfl dL_law_773 ?_
      refine g_aload_n k rfl dL_law_774 ?_
      refine g_iload k rfl dL_law_775 ?_
      refine g_iconst k dL_law_777 ?_
      refine g_iadd k dL_law_778 ?_
      refine g_sld k hX (i + 1) (by omega) (by omega) (by omega) dL_law_779 ?_
      refine g_aload_n k rfl dL_law_780 ?_
      refine g_iload k rfl dL_law_781 ?_
      refine g_iconst k dL_law_783 ?_
      refine g_iadd k dL_law_784 ?_
      refine g_sld k hX (i + 2) (by omega) (by omega) (by omega) dL_law_785 ?_
      refine g_aload_n k rfl dL_law_786 ?_
      refine g_iload k rfl dL_law_787 ?_
      refine g_iconst k dL_law_789 ?_
      refine g_iadd k dL_law_790 ?_
      refine g_sld k hX (i + 3) (by omega) (by omega) (by omega) dL_law_791 ?_
      refine g_cVi k 10 (As := [vi (xs (i + 1)).toInt, vi (xs (i + 2)).toInt, vi (xs (i + 3)).toInt]) v_X10_test rfl rfl o10 ml_L_97 k2 (by omega) (by omega) rfl (Nat.le_of_ble_eq_true rfl) rfl dL_law_792 (fun z2 h2 q2 => ?_)
      obtain ⟨ee, hI2, fr⟩ := s2 z2 h2 q2
      subst ee
      refine g_eqj k (tgt := 1287) dL_law_795 (by decide) ?_
      exact back nx cz sz N h2 (by omega) hI2 ((fr _ (by omega)).trans hla) (by omega) (by omega)
    · refine g_tabIn k (off := 760) (tgt := 800) (by omega) (by omega) (by omega) (by rw [c40]; rfl) dL_law_40 (by decide) ?_
      obtain ⟨P1, k1, s1⟩ := sp_yields (nx := nx) hI (iRg (xs (i + 1))) (iRg (xs (i + 2))) (iRg (xs (i + 3)))
      refine g_aload_n k rfl dL_law_800 ?_
      refine g_aload_n k rfl dL_law_801 ?_
      refine g_iload k rfl dL_law_802 ?_
      refine g_iconst k dL_law_804 ?_
      refine g_iadd k dL_law_805 ?_
      refine g_sld k hX (i + 1) (by omega) (by omega) (by omega) dL_law_806 ?_
      refine g_aload_n k rfl dL_law_807 ?_
      refine g_iload k rfl dL_law_808 ?_
      refine g_iconst k dL_law_810 ?_
      refine g_iadd k dL_law_811 ?_
      refine g_sld k hX (i + 2) (by omega) (by omega) (by omega) dL_law_812 ?_
      refine g_aload_n k rfl dL_law_813 ?_
      refine g_iload k rfl dL_law_814 ?_
      refine g_iconst k dL_law_816 ?_
      refine g_iadd k dL_law_817 ?_
      refine g_sld k hX (i + 3) (by omega) (by omega) (by omega) dL_law_818 ?_
      refine g_cVi k 9 (As := [vi (xs (i + 1)).toInt, vi (xs (i + 2)).toInt, vi (xs (i + 3)).toInt]) v_X9_yields rfl rfl o9 ml_L_98 k1 (by omega) (by omega) rfl (Nat.le_of_ble_eq_true rfl) rfl dL_law_819 (fun z1 h1 q1 => ?_)
      obtain ⟨⟨fs10, o10⟩, P2, k2, s2⟩ := s1 z1 h1 q1
      refine g_aload_n k rfl dL_law_822 ?_
      refine g_aload_n k rfl dL_law_823 ?_
      refine g_iload k rfl dL_law_824 ?_
      refine g_iconst k dL_law_826 ?_
      refine g_iadd k dL_law_827 ?_
      refine g_sld k hX (i + 1) (by omega) (by omega) (by omega) dL_law_828 ?_
      refine g_aload_n k rfl dL_law_829 ?_
      refine g_iload k rfl dL_law_830 ?_
      refine g_iconst k dL_law_832 ?_
      refine g_iadd k dL_law_833 ?_
      refine g_sld k hX (i + 2) (by omega) (by omega) (by omega) dL_law_834 ?_
      refine g_aload_n k rfl dL_law_835 ?_
      refine g_iload k rfl dL_law_836 ?_
      refine g_iconst k dL_law_838 ?_
      refine g_iadd k dL_law_839 ?_
      refine g_sld k hX (i + 3) (by omega) (by omega) (by omega) dL_law_840 ?_
      refine g_cVi k 10 (As := [vi (xs (i + 1)).toInt, vi (xs (i + 2)).toInt, vi (xs (i + 3)).toInt]) v_X10_yields rfl rfl o10 ml_L_101 k2 (by omega) (by omega) rfl (Nat.le_of_ble_eq_true rfl) rfl dL_law_841 (fun z2 h2 q2 => ?_)
      obtain ⟨ee, hI2, fr⟩ := s2 z2 h2 q2
      subst ee
      refine g_eqj k (tgt := 1287) dL_law_844 (by decide) ?_
      exact back nx cz sz N h2 (by omega) hI2 ((fr _ (by omega)).trans hla) (by omega) (by omega)
    · refine g_tabIn k (off := 809) (tgt := 849) (by omega) (by omega) (by omega) (by rw [c40]; rfl) dL_law_40 (by decide) ?_
      obtain ⟨P1, k1, s1⟩ := sp_idle (nx := nx) hI 
      refine g_aload_n k rfl dL_law_849 ?_
      refine g_cVi k 9 (As := []) v_X9_idle rfl rfl o9 ml_L_102 k1 (by omega) (by omega) rfl (Nat.le_of_ble_eq_true rfl) rfl dL_law_850 (fun z1 h1 q1 => ?_)
      obtain ⟨⟨fs10, o10⟩, P2, k2, s2⟩ := s1 z1 h1 q1
      refine g_aload_n k rfl dL_law_853 ?_
      refine g_cVi k 10 (As := []) v_X10_idle rfl rfl o10 ml_L_105 k2 (by omega) (by omega) rfl (Nat.le_of_ble_eq_true rfl) rfl dL_law_854 (fun z2 h2 q2 => ?_)
      obtain ⟨ee, hI2, fr⟩ := s2 z2 h2 q2
      subst ee
      refine g_eqj k (tgt := 1287) dL_law_857 (by decide) ?_
      exact back nx cz sz N h2 (by omega) hI2 ((fr _ (by omega)).trans hla) (by omega) (by omega)
    · refine g_tabIn k (off := 822) (tgt := 862) (by omega) (by omega) (by omega) (by rw [c40]; rfl) dL_law_40 (by decide) ?_
      obtain ⟨P1, k1, s1⟩ := sp_late (nx := nx) hI (iRg (xs (i + 1))) (iRg (xs (i + 2))) (iRg (xs (i + 3)))
      refine g_aload_n k rfl dL_law_862 ?_
      refine g_aload_n k rfl dL_law_863 ?_
      refine g_iload k rfl dL_law_864 ?_
      refine g_iconst k dL_law_866 ?_
      refine g_iadd k dL_law_867 ?_
      refine g_sld k hX (i + 1) (by omega) (by omega) (by omega) dL_law_868 ?_
      refine g_aload_n k rfl dL_law_869 ?_
      refine g_iload k rfl dL_law_870 ?_
      refine g_iconst k dL_law_872 ?_
      refine g_iadd k dL_law_873 ?_
      refine g_sld k hX (i + 2) (by omega) (by omega) (by omega) dL_law_874 ?_
      refine g_aload_n k rfl dL_law_875 ?_
      refine g_iload k rfl dL_law_876 ?_
      refine g_iconst k dL_law_878 ?_
      refine g_iadd k dL_law_879 ?_
      refine g_sld k hX (i + 3) (by omega) (by omega) (by omega) dL_law_880 ?_
      refine g_cVi k 9 (As := [vi (xs (i + 1)).toInt, vi (xs (i + 2)).toInt, vi (xs (i + 3)).toInt]) v_X9_late rfl rfl o9 ml_L_106 k1 (by omega) (by omega) rfl (Nat.le_of_ble_eq_true rfl) rfl dL_law_881 (fun z1 h1 q1 => ?_)
      obtain ⟨⟨fs10, o10⟩, P2, k2, s2⟩ := s1 z1 h1 q1
      refine g_aload_n k rfl dL_law_884 ?_
      refine g_aload_n k rfl dL_law_885 ?_
      refine g_iload k rfl dL_law_886 ?_
      refine g_iconst k dL_law_888 ?_
      refine g_iadd k dL_law_889 ?_
      refine g_sld k hX (i + 1) (by omega) (by omega) (by omega) dL_law_890 ?_
      refine g_aload_n k rfl dL_law_891 ?_
      refine g_iload k rfl dL_law_892 ?_
      refine g_iconst k dL_law_894 ?_
      refine g_iadd k dL_law_895 ?_
      refine g_sld k hX (i + 2) (by omega) (by omega) (by omega) dL_law_896 ?_
      refine g_aload_n k rfl dL_law_897 ?_
      refine g_iload k rfl dL_law_898 ?_
      refine g_iconst k dL_law_900 ?_
      refine g_iadd k dL_law_901 ?_
      refine g_sld k hX (i + 3) (by omega) (by omega) (by omega) dL_law_902 ?_
      refine g_cVi k 10 (As := [vi (xs (i + 1)).toInt, vi (xs (i + 2)).toInt, vi (xs (i + 3)).toInt]) v_X10_late rfl rfl o10 ml_L_109 k2 (by omega) (by omega) rfl (Nat.le_of_ble_eq_true rfl) rfl dL_law_903 (fun z2 h2 q2 => ?_)
      obtain ⟨ee, hI2, fr⟩ := s2 z2 h2 q2
      subst ee
      refine g_eqj k (tgt := 1287) dL_law_906 (by decide) ?_
      exact back nx cz sz N h2 (by omega) hI2 ((fr _ (by omega)).trans hla) (by omega) (by omega)
    · refine g_tabIn k (off := 871) (tgt := 911) (by omega) (by omega) (by omega) (by rw [c40]; rfl) dL_law_40 (by decide) ?_
      obtain ⟨P1, k1, s1⟩ := sp_ahead (nx := nx) hI (iRg (xs (i + 1))) (iRg (xs (i + 2)))
      refine g_aload_n k rfl dL_law_911 ?_
      refine g_aload_n k rfl dL_law_912 ?_
      refine g_iload k rfl dL_law_913 ?_
      refine g_iconst k dL_law_915 ?_
      refine g_iadd k dL_law_916 ?_
      refine g_sld k hX (i + 1) (by omega) (by omega) (by omega) dL_law_917 ?_
      refine g_aload_n k rfl dL_law_918 ?_
      refine g_iload k rfl dL_law_919 ?_
      refine g_iconst k dL_law_921 ?_
      refine g_iadd k dL_law_922 ?_
      refine g_sld k hX (i + 2) (by omega) (by omega) (by omega) dL_law_923 ?_
      refine g_cVi k 9 (As := [vi (xs (i + 1)).toInt, vi (xs (i + 2)).toInt]) v_X9_ahead rfl rfl o9 ml_L_110 k1 (by omega) (by omega) rfl (Nat.le_of_ble_eq_true rfl) rfl dL_law_924 (fun z1 h1 q1 => ?_)
      obtain ⟨⟨fs10, o10⟩, P2, k2, s2⟩ := s1 z1 h1 q1
      refine g_aload_n k rfl dL_law_927 ?_
      refine g_aload_n k rfl dL_law_928 ?_
      refine g_iload k rfl dL_law_929 ?_
      refine g_iconst k dL_law_931 ?_
      refine g_iadd k dL_law_932 ?_
      refine g_sld k hX (i + 1) (by omega) (by omega) (by omega) dL_law_933 ?_
      refine g_aload_n k rfl dL_law_934 ?_
      refine g_iload k rfl dL_law_935 ?_
      refine g_iconst k dL_law_937 ?_
      refine g_iadd k dL_law_938 ?_
      refine g_sld k hX (i + 2) (by omega) (by omega) (by omega) dL_law_939 ?_
      refine g_cVi k 10 (As := [vi (xs (i + 1)).toInt, vi (xs (i + 2)).toInt]) v_X10_ahead rfl rfl o10 ml_L_113 k2 (by omega) (by omega) rfl (Nat.le_of_ble_eq_true rfl) rfl dL_law_940 (fun z2 h2 q2 => ?_)
      obtain ⟨ee, hI2, fr⟩ := s2 z2 h2 q2
      subst ee
      refine g_eqj k (tgt := 1287) dL_law_943 (by decide) ?_
      exact back nx cz sz N h2 (by omega) hI2 ((fr _ (by omega)).trans hla) (by omega) (by omega)
    · refine g_tabIn k (off := 908) (tgt := 948) (by omega) (by omega) (by omega) (by rw [c40]; rfl) dL_law_40 (by decide) ?_
      obtain ⟨P1, k1, s1⟩ := sp_chain (nx := nx) hI (iRg (xs (i + 1)))
      refine g_aload_n k rfl dL_law_948 ?_
      refine g_aload_n k rfl dL_law_949 ?_
      refine g_iload k rfl dL_law_950 ?_
      refine g_iconst k dL_law_952 ?_
      refine g_iadd k dL_law_953 ?_
      refine g_sld k hX (i + 1) (by omega) (by omega) (by omega) dL_law_954 ?_
      refine g_cVi k 9 (As := [vi (xs (i + 1)).toInt]) v_X9_chain rfl rfl o9 ml_L_114 k1 (by omega) (by omega) rfl (Nat.le_of_ble_eq_true rfl) rfl dL_law_955 (fun z1 h1 q1 => ?_)
      obtain ⟨⟨fs10, o10⟩, P2, k2, s2⟩ := s1 z1 h1 q1
      refine g_aload_n k rfl dL_law_958 ?_
      refine g_aload_n k rfl dL_law_959 ?_
      refine g_iload k rfl dL_law_960 ?_
      refine g_iconst k dL_law_962 ?_
      refine g_iadd k dL_law_963 ?_
      refine g_sld k hX (i + 1) (by omega) (by omega) (by omega) dL_law_964 ?_
      refine g_cVi k 10 (As := [vi (xs (i + 1)).toInt]) v_X10_chain rfl rfl o10 ml_L_117 k2 (by omega) (by omega) rfl (Nat.le_of_ble_eq_true rfl) rfl dL_law_965 (fun z2 h2 q2 => ?_)
      obtain ⟨ee, hI2, fr⟩ := s2 z2 h2 q2
      subst ee
      refine g_eqj k (tgt := 1287) dL_law_968 (by decide) ?_
      exact back nx cz sz N h2 (by omega) hI2 ((fr _ (by omega)).trans hla) (by omega) (by omega)
    · refine g_tabIn k (off := 933) (tgt := 973) (by omega) (by omega) (by omega) (by rw [c40]; rfl) dL_law_40 (by decide) ?_
      obtain ⟨P1, k1, s1⟩ := sp_crowd (nx := nx) hI (iRg (xs (i + 1)))
      refine g_aload_n k rfl dL_law_973 ?_
      refine g_aload_n k rfl dL_law_974 ?_
      refine g_iload k rfl dL_law_975 ?_
      refine g_iconst k dL_law_977 ?_
      refine g_iadd k dL_law_978 ?_
      refine g_sld k hX (i + 1) (by omega) (by omega) (by omega) dL_law_979 ?_
      refine g_cVi k 9 (As := [vi (xs (i + 1)).toInt]) v_X9_crowd rfl rfl o9 ml_L_118 k1 (by omega) (by omega) rfl (Nat.le_of_ble_eq_true rfl) rfl dL_law_980 (fun z1 h1 q1 => ?_)
      obtain ⟨⟨fs10, o10⟩, P2, k2, s2⟩ := s1 z1 h1 q1
      refine g_aload_n k rfl dL_law_983 ?_
      refine g_aload_n k rfl dL_law_984 ?_
      refine g_iload k rfl dL_law_985 ?_
      refine g_iconst k dL_law_987 ?_
      refine g_iadd k dL_law_988 ?_
      refine g_sld k hX (i + 1) (by omega) (by omega) (by omega) dL_law_989 ?_
      refine g_cVi k 10 (As := [vi (xs (i + 1)).toInt]) v_X10_crowd rfl rfl o10 ml_L_121 k2 (by omega) (by omega) rfl (Nat.le_of_ble_eq_true rfl) rfl dL_law_990 (fun z2 h2 q2 => ?_)
      obtain ⟨ee, hI2, fr⟩ := s2 z2 h2 q2
      subst ee
      refine g_eqj k (tgt := 1287) dL_law_993 (by decide) ?_
      exact back nx cz sz N h2 (by omega) hI2 ((fr _ (by omega)).trans hla) (by omega) (by omega)
    · refine g_tabIn k (off := 958) (tgt := 998) (by omega) (by omega) (by omega) (by rw [c40]; rfl) dL_law_40 (by decide) ?_
      obtain ⟨P1, k1, s1⟩ := sp_room (nx := nx) hI (iRg (xs (i + 1)))
      refine g_aload_n k rfl dL_law_998 ?_
      refine g_aload_n k rfl dL_law_999 ?_
      refine g_iload k rfl dL_law_1000 ?_
      refine g_iconst k dL_law_1002 ?_
      refine g_iadd k dL_law_1003 ?_
      refine g_sld k hX (i + 1) (by omega) (by omega) (by omega) dL_law_1004 ?_
      refine g_cVi k 9 (As := [vi (xs (i + 1)).toInt]) v_X9_room rfl rfl o9 ml_L_122 k1 (by omega) (by omega) rfl (Nat.le_of_ble_eq_true rfl) rfl dL_law_1005 (fun z1 h1 q1 => ?_)
      obtain ⟨⟨fs10, o10⟩, P2, k2, s2⟩ := s1 z1 h1 q1
      refine g_aload_n k rfl dL_law_1008 ?_
      refine g_aload_n k rfl dL_law_1009 ?_
      refine g_iload k rfl dL_law_1010 ?_
      refine g_iconst k dL_law_1012 ?_
      refine g_iadd k dL_law_1013 ?_
      refine g_sld k hX (i + 1) (by omega) (by omega) (by omega) dL_law_1014 ?_
      refine g_cVi k 10 (As := [vi (xs (i + 1)).toInt]) v_X10_room rfl rfl o10 ml_L_125 k2 (by omega) (by omega) rfl (Nat.le_of_ble_eq_true rfl) rfl dL_law_1015 (fun z2 h2 q2 => ?_)
      obtain ⟨ee, hI2, fr⟩ := s2 z2 h2 q2
      subst ee
      refine g_eqj k (tgt := 1287) dL_law_1018 (by decide) ?_
      exact back nx cz sz N h2 (by omega) hI2 ((fr _ (by omega)).trans hla) (by omega) (by omega)
    · refine g_tabIn k (off := 983) (tgt := 1023) (by omega) (by omega) (by omega) (by rw [c40]; rfl) dL_law_40 (by decide) ?_
      obtain ⟨P1, k1, s1⟩ := sp_shape (nx := nx) hI (iRg (xs (i + 1)))
      refine g_aload_n k rfl dL_law_1023 ?_
      refine g_aload_n k rfl dL_law_1024 ?_
      refine g_iload k rfl dL_law_1025 ?_
      refine g_iconst k dL_law_1027 ?_
      refine g_iadd k dL_law_1028 ?_
      refine g_sld k hX (i + 1) (by omega) (by omega) (by omega) dL_law_1029 ?_
      refine g_cVi k 9 (As := [vi (xs (i + 1)).toInt]) v_X9_shape rfl rfl o9 ml_L_126 k1 (by omega) (by omega) rfl (Nat.le_of_ble_eq_true rfl) rfl dL_law_1030 (fun z1 h1 q1 => ?_)
      obtain ⟨⟨fs10, o10⟩, P2, k2, s2⟩ := s1 z1 h1 q1
      refine g_aload_n k rfl dL_law_1033 ?_
      refine g_aload_n k rfl dL_law_1034 ?_
      refine g_iload k rfl dL_law_1035 ?_
      refine g_iconst k dL_law_1037 ?_
      refine g_iadd k dL_law_1038 ?_
      refine g_sld k hX (i + 1) (by omega) (by omega) (by omega) dL_law_1039 ?_
      refine g_cVi k 10 (As := [vi (xs (i + 1)).toInt]) v_X10_shape rfl rfl o10 ml_L_129 k2 (by omega) (by omega) rfl (Nat.le_of_ble_eq_true rfl) rfl dL_law_1040 (fun z2 h2 q2 => ?_)
      obtain ⟨ee, hI2, fr⟩ := s2 z2 h2 q2
      subst ee
      refine g_eqj k (tgt := 1287) dL_law_1043 (by decide) ?_
      exact back nx cz sz N h2 (by omega) hI2 ((fr _ (by omega)).trans hla) (by omega) (by omega)
    · refine g_tabIn k (off := 1008) (tgt := 1048) (by omega) (by omega) (by omega) (by rw [c40]; rfl) dL_law_40 (by decide) ?_
      obtain ⟨P1, k1, s1⟩ := sp_rank (nx := nx) hI 
      refine g_aload_n k rfl dL_law_1048 ?_
      refine g_cVi k 9 (As := []) v_X9_rank rfl rfl o9 ml_L_130 k1 (by omega) (by omega) rfl (Nat.le_of_ble_eq_true rfl) rfl dL_law_1049 (fun z1 h1 q1 => ?_)
      obtain ⟨⟨fs10, o10⟩, P2, k2, s2⟩ := s1 z1 h1 q1
      refine g_aload_n k rfl dL_law_1052 ?_
      refine g_cVi k 10 (As := []) v_X10_rank rfl rfl o10 ml_L_133 k2 (by omega) (by omega) rfl (Nat.le_of_ble_eq_true rfl) rfl dL_law_1053 (fun z2 h2 q2 => ?_)
      obtain ⟨ee, hI2, fr⟩ := s2 z2 h2 q2
      subst ee
      refine g_eqj k (tgt := 1287) dL_law_1056 (by decide) ?_
      exact back nx cz sz N h2 (by omega) hI2 ((fr _ (by omega)).trans hla) (by omega) (by omega)
    · refine g_tabIn k (off := 1021) (tgt := 1061) (by omega) (by omega) (by omega) (by rw [c40]; rfl) dL_law_40 (by decide) ?_
      obtain ⟨P1, k1, s1⟩ := sp_shapes (nx := nx) hI (iRg (xs (i + 1)))
      refine g_aload_n k rfl dL_law_1061 ?_
      refine g_aload_n k rfl dL_law_1062 ?_
      refine g_iload k rfl dL_law_1063 ?_
      refine g_iconst k dL_law_1065 ?_
      refine g_iadd k dL_law_1066 ?_
      refine g_sld k hX (i + 1) (by omega) (by omega) (by omega) dL_law_1067 ?_
      refine g_cVi k 9 (As := [vi (xs (i + 1)).toInt]) v_X9_shapes rfl rfl o9 ml_L_134 k1 (by omega) (by omega) rfl (Nat.le_of_ble_eq_true rfl) rfl dL_law_1068 (fun z1 h1 q1 => ?_)
      obtain ⟨⟨fs10, o10⟩, P2, k2, s2⟩ := s1 z1 h1 q1
      refine g_aload_n k rfl dL_law_1071 ?_
      refine g_aload_n k rfl dL_law_1072 ?_
      refine g_iload k rfl dL_law_1073 ?_
      refine g_iconst k dL_law_1075 ?_
      refine g_iadd k dL_law_1076 ?_
      refine g_sld k hX (i + 1) (by omega) (by omega) (by omega) dL_law_1077 ?_
      refine g_cVi k 10 (As := [vi (xs (i + 1)).toInt]) v_X10_shapes rfl rfl o10 ml_L_137 k2 (by omega) (by omega) rfl (Nat.le_of_ble_eq_true rfl) rfl dL_law_1078 (fun z2 h2 q2 => ?_)
      obtain ⟨ee, hI2, fr⟩ := s2 z2 h2 q2
      subst ee
      refine g_eqj k (tgt := 1287) dL_law_1081 (by decide) ?_
      exact back nx cz sz N h2 (by omega) hI2 ((fr _ (by omega)).trans hla) (by omega) (by omega)
    · refine g_tabIn k (off := 1046) (tgt := 1086) (by omega) (by omega) (by omega) (by rw [c40]; rfl) dL_law_40 (by decide) ?_
      obtain ⟨P1, k1, s1⟩ := sp_make (nx := nx) hI (iRg (xs (i + 1))) (iRg (xs (i + 2)))
      refine g_aload_n k rfl dL_law_1086 ?_
      refine g_aload_n k rfl dL_law_1087 ?_
      refine g_iload k rfl dL_law_1088 ?_
      refine g_iconst k dL_law_1090 ?_
      refine g_iadd k dL_law_1091 ?_
      refine g_sld k hX (i + 1) (by omega) (by omega) (by omega) dL_law_1092 ?_
      refine g_aload_n k rfl dL_law_1093 ?_
      refine g_iload k rfl dL_law_1094 ?_
      refine g_iconst k dL_law_1096 ?_
      refine g_iadd k dL_law_1097 ?_
      refine g_sld k hX (i + 2) (by omega) (by omega) (by omega) dL_law_1098 ?_
      refine g_cVi k 9 (As := [vi (xs (i + 1)).toInt, vi (xs (i + 2)).toInt]) v_X9_make rfl rfl o9 ml_L_138 k1 (by omega) (by omega) rfl (Nat.le_of_ble_eq_true rfl) rfl dL_law_1099 (fun z1 h1 q1 => ?_)
      obtain ⟨⟨fs10, o10⟩, P2, k2, s2⟩ := s1 z1 h1 q1
      refine g_aload_n k rfl dL_law_1102 ?_
      refine g_aload_n k rfl dL_law_1103 ?_
      refine g_iload k rfl dL_law_1104 ?_
      refine g_iconst k dL_law_1106 ?_
      refine g_iadd k dL_law_1107 ?_
      refine g_sld k hX (i + 1) (by omega) (by omega) (by omega) dL_law_1108 ?_
      refine g_aload_n k rfl dL_law_1109 ?_
      refine g_iload k rfl dL_law_1110 ?_
      refine g_iconst k dL_law_1112 ?_
      refine g_iadd k dL_law_1113 ?_
      refine g_sld k hX (i + 2) (by omega) (by omega) (by omega) dL_law_1114 ?_
      refine g_cVi k 10 (As := [vi (xs (i + 1)).toInt, vi (xs (i + 2)).toInt]) v_X10_make rfl rfl o10 ml_L_141 k2 (by omega) (by omega) rfl (Nat.le_of_ble_eq_true rfl) rfl dL_law_1115 (fun z2 h2 q2 => ?_)
      obtain ⟨ee, hI2, fr⟩ := s2 z2 h2 q2
      subst ee
      refine g_eqj k (tgt := 1287) dL_law_1118 (by decide) ?_
      exact back nx cz sz N h2 (by omega) hI2 ((fr _ (by omega)).trans hla) (by omega) (by omega)
    · refine g_tabIn k (off := 1083) (tgt := 1123) (by omega) (by omega) (by omega) (by rw [c40]; rfl) dL_law_40 (by decide) ?_
      obtain ⟨P1, k1, s1⟩ := sp_finish (nx := nx) hI 
      refine g_aload_n k rfl dL_law_1123 ?_
      refine g_cVi k 9 (As := []) v_X9_finish rfl rfl o9 ml_L_142 k1 (by omega) (by omega) rfl (Nat.le_of_ble_eq_true rfl) rfl dL_law_1124 (fun z1 h1 q1 => ?_)
      obtain ⟨⟨fs10, o10⟩, P2, k2, s2⟩ := s1 z1 h1 q1
      refine g_aload_n k rfl dL_law_1127 ?_
      refine g_cVi k 10 (As := []) v_X10_finish rfl rfl o10 ml_L_145 k2 (by omega) (by omega) rfl (Nat.le_of_ble_eq_true rfl) rfl dL_law_1128 (fun z2 h2 q2 => ?_)
      obtain ⟨ee, hI2, fr⟩ := s2 z2 h2 q2
      subst ee
      refine g_eqj k (tgt := 1287) dL_law_1131 (by decide) ?_
      exact back nx cz sz N h2 (by omega) hI2 ((fr _ (by omega)).trans hla) (by omega) (by omega)
    · refine g_tabIn k (off := 1096) (tgt := 1136) (by omega) (by omega) (by omega) (by rw [c40]; rfl) dL_law_40 (by decide) ?_
      obtain ⟨P1, k1, s1⟩ := sp_grow (nx := nx) hI 
      refine g_aload_n k rfl dL_law_1136 ?_
      refine g_cVi k 9 (As := []) v_X9_grow rfl rfl o9 ml_L_146 k1 (by omega) (by omega) rfl (Nat.le_of_ble_eq_true rfl) rfl dL_law_1137 (fun z1 h1 q1 => ?_)
      obtain ⟨⟨fs10, o10⟩, P2, k2, s2⟩ := s1 z1 h1 q1
      refine g_aload_n k rfl dL_law_1140 ?_
      refine g_cVi k 10 (As := []) v_X10_grow rfl rfl o10 ml_L_149 k2 (by omega) (by omega) rfl (Nat.le_of_ble_eq_true rfl) rfl dL_law_1141 (fun z2 h2 q2 => ?_)
      obtain ⟨ee, hI2, fr⟩ := s2 z2 h2 q2
      subst ee
      refine g_eqj k (tgt := 1287) dL_law_1144 (by decide) ?_
      exact back nx cz sz N h2 (by omega) hI2 ((fr _ (by omega)).trans hla) (by omega) (by omega)
    · refine g_tabIn k (off := 1109) (tgt := 1149) (by omega) (by omega) (by omega) (by rw [c40]; rfl) dL_law_40 (by decide) ?_
      obtain ⟨P1, k1, s1⟩ := sp_drop (nx := nx) hI (iRg (xs (i + 1)))
      refine g_aload_n k rfl dL_law_1149 ?_
      refine g_aload_n k rfl dL_law_1150 ?_
      refine g_iload k rfl dL_law_1151 ?_
      refine g_iconst k dL_law_1153 ?_
      refine g_iadd k dL_law_1154 ?_
      refine g_sld k hX (i + 1) (by omega) (by omega) (by omega) dL_law_1155 ?_
      refine g_cVi k 9 (As := [vi (xs (i + 1)).toInt]) v_X9_drop rfl rfl o9 ml_L_150 k1 (by omega) (by omega) rfl (Nat.le_of_ble_eq_true rfl) rfl dL_law_1156 (fun z1 h1 q1 => ?_)
      obtain ⟨⟨fs10, o10⟩, P2, k2, s2⟩ := s1 z1 h1 q1
      refine g_aload_n k rfl dL_law_1159 ?_
      refine g_aload_n k rfl dL_law_1160 ?_
      refine g_iload k rfl dL_law_1161 ?_
      refine g_iconst k dL_law_1163 ?_
      refine g_iadd k dL_law_1164 ?_
      refine g_sld k hX (i + 1) (by omega) (by omega) (by omega) dL_law_1165 ?_
      refine g_cVi k 10 (As := [vi (xs (i + 1)).toInt]) v_X10_drop rfl rfl o10 ml_L_153 k2 (by omega) (by omega) rfl (Nat.le_of_ble_eq_true rfl) rfl dL_law_1166 (fun z2 h2 q2 => ?_)
      obtain ⟨ee, hI2, fr⟩ := s2 z2 h2 q2
      subst ee
      refine g_eqj k (tgt := 1287) dL_law_1169 (by decide) ?_
      exact back nx cz sz N h2 (by omega) hI2 ((fr _ (by omega)).trans hla) (by omega) (by omega)
    · refine g_tabIn k (off := 1134) (tgt := 1174) (by omega) (by omega) (by omega) (by rw [c40]; rfl) dL_law_40 (by decide) ?_
      obtain ⟨P1, k1, s1⟩ := sp_turn (nx := nx) hI 
      refine g_aload_n k rfl dL_law_1174 ?_
      refine g_cVi k 9 (As := []) v_X9_turn rfl rfl o9 ml_L_154 k1 (by omega) (by omega) rfl (Nat.le_of_ble_eq_true rfl) rfl dL_law_1175 (fun z1 h1 q1 => ?_)
      obtain ⟨⟨fs10, o10⟩, P2, k2, s2⟩ := s1 z1 h1 q1
      refine g_aload_n k rfl dL_law_1178 ?_
      refine g_cVi k 10 (As := []) v_X10_turn rfl rfl o10 ml_L_157 k2 (by omega) (by omega) rfl (Nat.le_of_ble_eq_true rfl) rfl dL_law_1179 (fun z2 h2 q2 => ?_)
      obtain ⟨ee, hI2, fr⟩ := s2 z2 h2 q2
      subst ee
      refine g_eqj k (tgt := 1287) dL_law_1182 (by decide) ?_
      exact back nx cz sz N h2 (by omega) hI2 ((fr _ (by omega)).trans hla) (by omega) (by omega)
    · refine g_tabIn k (off := 1147) (tgt := 1187) (by omega) (by omega) (by omega) (by rw [c40]; rfl) dL_law_40 (by decide) ?_
      obtain ⟨P1, k1, s1⟩ := sp_drawn (nx := nx) hI (iRg (xs (i + 1))) (iRg (xs (i + 2)))
      refine g_aload_n k rfl dL_law_1187 ?_
      refine g_aload_n k rfl dL_law_1188 ?_
      refine g_iload k rfl dL_law_1189 ?_
      refine g_iconst k dL_law_1191 ?_
      refine g_iadd k dL_law_1192 ?_
      refine g_sld k hX (i + 1) (by omega) (by omega) (by omega) dL_law_1193 ?_
      refine g_aload_n k rfl dL_law_1194 ?_
      refine g_iload k rfl dL_law_1195 ?_
      refine g_iconst k dL_law_1197 ?_
      refine g_iadd k dL_law_1198 ?_
      refine g_sld k hX (i + 2) (by omega) (by omega) (by omega) dL_law_1199 ?_
      refine g_cVi k 9 (As := [vi (xs (i + 1)).toInt, vi (xs (i + 2)).toInt]) v_X9_drawn rfl rfl o9 ml_L_158 k1 (by omega) (by omega) rfl (Nat.le_of_ble_eq_true rfl) rfl dL_law_1200 (fun z1 h1 q1 => ?_)
      obtain ⟨⟨fs10, o10⟩, P2, k2, s2⟩ := s1 z1 h1 q1
      refine g_aload_n k rfl dL_law_1203 ?_
      refine g_aload_n k rfl dL_law_1204 ?_
      refine g_iload k rfl dL_law_1205 ?_
      refine g_iconst k dL_law_1207 ?_
      refine g_iadd k dL_law_1208 ?_
      refine g_sld k hX (i + 1) (by omega) (by omega) (by omega) dL_law_1209 ?_
      refine g_aload_n k rfl dL_law_1210 ?_
      refine g_iload k rfl dL_law_1211 ?_
      refine g_iconst k dL_law_1213 ?_
      refine g_iadd k dL_law_1214 ?_
      refine g_sld k hX (i + 2) (by omega) (by omega) (by omega) dL_law_1215 ?_
      refine g_cVi k 10 (As := [vi (xs (i + 1)).toInt, vi (xs (i + 2)).toInt]) v_X10_drawn rfl rfl o10 ml_L_161 k2 (by omega) (by omega) rfl (Nat.le_of_ble_eq_true rfl) rfl dL_law_1216 (fun z2 h2 q2 => ?_)
      obtain ⟨ee, hI2, fr⟩ := s2 z2 h2 q2
      subst ee
      refine g_eqj k (tgt := 1287) dL_law_1219 (by decide) ?_
      exact back nx cz sz N h2 (by omega) hI2 ((fr _ (by omega)).trans hla) (by omega) (by omega)
    · refine g_tabIn k (off := 1184) (tgt := 1224) (by omega) (by omega) (by omega) (by rw [c40]; rfl) dL_law_40 (by decide) ?_
      obtain ⟨P1, k1, s1⟩ := sp_undo (nx := nx) hI 
      refine g_aload_n k rfl dL_law_1224 ?_
      refine g_cVi k 9 (As := []) v_X9_undo rfl rfl o9 ml_L_162 k1 (by omega) (by omega) rfl (Nat.le_of_ble_eq_true rfl) rfl dL_law_1225 (fun z1 h1 q1 => ?_)
      obtain ⟨⟨fs10, o10⟩, P2, k2, s2⟩ := s1 z1 h1 q1
      refine g_aload_n k rfl dL_law_1228 ?_
      refine g_cVi k 10 (As := []) v_X10_undo rfl rfl o10 ml_L_165 k2 (by omega) (by omega) rfl (Nat.le_of_ble_eq_true rfl) rfl dL_law_1229 (fun z2 h2 q2 => ?_)
      obtain ⟨ee, hI2, fr⟩ := s2 z2 h2 q2
      subst ee
      refine g_eqj k (tgt := 1287) dL_law_1232 (by decide) ?_
      exact back nx cz sz N h2 (by omega) hI2 ((fr _ (by omega)).trans hla) (by omega) (by omega)
    · refine g_tabIn k (off := 1197) (tgt := 1237) (by omega) (by omega) (by omega) (by rw [c40]; rfl) dL_law_40 (by decide) ?_
      obtain ⟨P1, k1, s1⟩ := sp_image (nx := nx) hI (iRg (xs (i + 1)))
      refine g_aload_n k rfl dL_law_1237 ?_
      refine g_aload_n k rfl dL_law_1238 ?_
      refine g_iload k rfl dL_law_1239 ?_
      refine g_iconst k dL_law_1241 ?_
      refine g_iadd k dL_law_1242 ?_
      refine g_sld k hX (i + 1) (by omega) (by omega) (by omega) dL_law_1243 ?_
      refine g_cVi k 9 (As := [vi (xs (i + 1)).toInt]) v_X9_image rfl rfl o9 ml_L_166 k1 (by omega) (by omega) rfl (Nat.le_of_ble_eq_true rfl) rfl dL_law_1244 (fun z1 h1 q1 => ?_)
      obtain ⟨⟨fs10, o10⟩, P2, k2, s2⟩ := s1 z1 h1 q1
      refine g_aload_n k rfl dL_law_1247 ?_
      refine g_aload_n k rfl dL_law_1248 ?_
      refine g_iload k rfl dL_law_1249 ?_
      refine g_iconst k dL_law_1251 ?_
      refine g_iadd k dL_law_1252 ?_
      refine g_sld k hX (i + 1) (by omega) (by omega) (by omega) dL_law_1253 ?_
      refine g_cVi k 10 (As := [vi (xs (i + 1)).toInt]) v_X10_image rfl rfl o10 ml_L_169 k2 (by omega) (by omega) rfl (Nat.le_of_ble_eq_true rfl) rfl dL_law_1254 (fun z2 h2 q2 => ?_)
      obtain ⟨ee, hI2, fr⟩ := s2 z2 h2 q2
      subst ee
      refine g_eqj k (tgt := 1287) dL_law_1257 (by decide) ?_
      exact back nx cz sz N h2 (by omega) hI2 ((fr _ (by omega)).trans hla) (by omega) (by omega)
    · refine g_tabIn k (off := 1222) (tgt := 1262) (by omega) (by omega) (by omega) (by rw [c40]; rfl) dL_law_40 (by decide) ?_
      obtain ⟨P1, k1, s1⟩ := sp_restore (nx := nx) hI (iRg (xs (i + 1)))
      refine g_aload_n k rfl dL_law_1262 ?_
      refine g_aload_n k rfl dL_law_1263 ?_
      refine g_iload k rfl dL_law_1264 ?_
      refine g_iconst k dL_law_1266 ?_
      refine g_iadd k dL_law_1267 ?_
      refine g_sld k hX (i + 1) (by omega) (by omega) (by omega) dL_law_1268 ?_
      refine g_cVi k 9 (As := [vi (xs (i + 1)).toInt]) v_X9_restore rfl rfl o9 ml_L_170 k1 (by omega) (by omega) rfl (Nat.le_of_ble_eq_true rfl) rfl dL_law_1269 (fun z1 h1 q1 => ?_)
      obtain ⟨⟨fs10, o10⟩, P2, k2, s2⟩ := s1 z1 h1 q1
      refine g_aload_n k rfl dL_law_1272 ?_
      refine g_aload_n k rfl dL_law_1273 ?_
      refine g_iload k rfl dL_law_1274 ?_
      refine g_iconst k dL_law_1276 ?_
      refine g_iadd k dL_law_1277 ?_
      refine g_sld k hX (i + 1) (by omega) (by omega) (by omega) dL_law_1278 ?_
      refine g_cVi k 10 (As := [vi (xs (i + 1)).toInt]) v_X10_restore rfl rfl o10 ml_L_173 k2 (by omega) (by omega) rfl (Nat.le_of_ble_eq_true rfl) rfl dL_law_1279 (fun z2 h2 q2 => ?_)
      obtain ⟨ee, hI2, fr⟩ := s2 z2 h2 q2
      subst ee
      refine g_eqj k (tgt := 1287) dL_law_1282 (by decide) ?_
      exact back nx cz sz N h2 (by omega) hI2 ((fr _ (by omega)).trans hla) (by omega) (by omega)
