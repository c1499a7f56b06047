/-! a row that tells a fact; all rows -/
noncomputable def srI (NM : Nat → Int) (it : Nat) (w : Int) : Int := sr (fun i => NM i = w) it
noncomputable def rFact (T : Nat → Int) (n lm : Nat) (x : RS) : Prop × RS :=
  let s := x.1
  let it := x.2.1
  let φ := x.2.2.1
  let NM := x.2.2.2.1
  let V := x.2.2.2.2.2.2
  let s1 := nxT T n lm s
  let s2 := nxT T n lm s1
  let k : Nat := if s1.2.2.2 = 72564293 then 0 else 1
  let a := srI NM it s.2.2.2
  let b := srI NM it s2.2.2.2
  let y := rStop T n lm (s2, x.2)
  haveI := Classical.propDecidable (isNm s.1 s.2.2.2)
  haveI := Classical.propDecidable (isNm s2.1 s2.2.2.2)
  haveI := Classical.propDecidable y.1
  haveI := Classical.propDecidable (rfd φ 0 it k a.toNat b.toNat)
  if ¬ isNm s.1 s.2.2.2 then (False, (s, it, φ, NM, 1, s.2.1, V))
  else if a = -1 then (False, (s, it, φ, NM, 2, s.2.1, V))
  else if ¬ (s1.1 = 1 ∧ (s1.2.2.2 = 72564293 ∨ s1.2.2.2 = 72983685)) then (False, (s1, it, φ, NM, 1, s1.2.1, V))
  else if ¬ isNm s2.1 s2.2.2.2 then (False, (s2, it, φ, NM, 1, s2.2.1, V))
  else if b = -1 ∨ b = a ∨ ¬ ix φ a b = -1 then (False, (s2, it, φ, NM, 2, s2.2.1, V))
  else if ¬ y.1 then (False, y.2)
  else if rfd φ 0 it k a.toNat b.toNat then (False, (y.2.1, it, φ, NM, 4, s.2.1, skV φ 0 it k a.toNat b.toNat V))
  else (True, (y.2.1, it, φ ++ [(k, a.toNat, b.toNat)], NM, y.2.2.2.2.2.1, y.2.2.2.2.2.2.1, V))
theorem rStop_y {T : Nat → Int} {n lm : Nat} {x : RS} (h : (rStop T n lm x).1) : (rStop T n lm x).2 = (nxT T n lm x.1, x.2) := by
  have h : (nxT T n lm x.1).1 = 2 := h
  unfold rStop
  rw [if_pos h]
set_option maxHeartbeats 6000000 in
set_option maxRecDepth 100000 in
theorem c_X4_readFact {G : Gx} {h : Hp} {nx a t r lm n : Nat} {T : Nat → Int} {tk pl nt it ft fp : Nat} {wd : Int} {φ : Fs} {NM : Nat → Int} {V : RV} (hA : RDA G h a t r lm n ((tk, pl, nt, wd), it, φ, NM, ft, fp, V)) (hT : TA G h t n T) (hn7 : n ≤ 740) (hlm : lm ≤ n) (hBy : Byt T) (hLa : Lay a t r) : Con G yX4_readFact cX4_readFact 5 (some .boolean) 6 0 0 [.ref a] h nx (PI fun z h' => bz (rFact T n lm ((tk, pl, nt, wd), it, φ, NM, ft, fp, V)).1 z ∧ RDA G h' a t r lm n (rFact T n lm ((tk, pl, nt, wd), it, φ, NM, ft, fp, V)).2 ∧ ∀ q : Nat, (q < a ∨ a + 5 < q) → (q < r ∨ r + 2 < q) → h' q = h q) := by
  obtain ⟨hA0, hF0, hS0, hV0, hk0, hN0, hft, hfp⟩ := hA
  obtain ⟨ha, hn⟩ := id hA0
  obtain ⟨d1, d2, d3⟩ := id hLa
  obtain ⟨tk1, tk2, tk3, tk4⟩ := id hk0
  dsimp only at tk1 tk2 tk3 tk4 hft hfp hN0 hF0 hS0 hV0 ha hn
  obtain ⟨K5, F5, Z5, hd, hdk, hdf, hds, hrr⟩ := id hF0
  have h8 := hS0.1
  have hT0 := hT
  have hsa := sr_b (P := fun i => NM i = wd) (n := it)
  have hsa : -1 ≤ srI NM it wd ∧ (srI NM it wd < it ∨ srI NM it wd = -1) := hsa
  refine Con.of v_X4_readFact.2.2.2.2.2.1 (Nat.le_of_ble_eq_true rfl) (lv := [(0, .ref a)]) rfl (fun X k => ?_)
  generalize hQQ : QM G X nx 0 0 _ = QQ
  have fr0 : ∀ q : Nat, ((q < a ∨ a + 4 < q) ∧ (q < r ∨ r + 2 < q)) → h q = h q := fun _ _ => rfl
  refine g_aload_n k rfl dX4_readFact_0 ?_
  refine g_get k 4 4 (C := RX4) (T := TX4) (N := 11) fl_X4_86 rfl wi_X4 (by decide) rfl ha rfl dX4_readFact_1 ?_
  refine g_istore_n k (lv2 := [(0, .ref a), (1, vi (pl : Int))]) (by decide) rfl rfl dX4_readFact_4 ?_
  refine g_aload_n k rfl dX4_readFact_5 ?_
  refine g_cVi k 4 (As := []) v_X4_isName rfl rfl ha ml_X4_89 (c_X4_isName ⟨ha, hn⟩ (fun q => tk4 (by omega)) (by omega)) (by omega) (by omega) rfl (Nat.le_of_ble_eq_true rfl) rfl dX4_readFact_6 (fun r6 h6 p6 => ?_)
  obtain ⟨eh6, p6⟩ := p6
  have eh6 := eh6.symm; subst eh6
  have q6 := p6
  have q6r := q6.r
  refine g_if_ne k (tgt := 22) (by omega) dX4_readFact_9 (by decide) (fun c9 => ?_) (fun c9 => ?_)
  · skip
    have hnm := q6.t (by omega)
    have hnm1 := isNm_b hnm
    refine g_aload_n k rfl dX4_readFact_22 ?_
    refine g_cVi k 4 (As := []) v_X4_itemNamed rfl rfl ha ml_X4_92 (c_X4_itemNamed ⟨ha, hn⟩ (tk4 (by omega)) h8 hd hN0 (K := [])) (by omega) (by omega) rfl (Nat.le_of_ble_eq_true rfl) rfl dX4_readFact_23 (fun r23 h23 p23 => ?_)
    obtain ⟨eh23, p23⟩ := p23
    have eh23 := eh23.symm; subst eh23
    subst p23
    refine g_istore_n k (lv2 := [(0, .ref a), (1, vi (pl : Int)), (2, vi (srI NM it wd))]) (by decide) rfl rfl dX4_readFact_26 ?_
    refine g_iload_n k rfl dX4_readFact_27 ?_
    refine g_iconst k dX4_readFact_28 ?_
    refine g_icmp_ne k (tgt := 42) (by omega) (by omega) dX4_readFact_29 (by decide) (fun c29 => ?_) (fun c29 => ?_)
    · skip
      obtain ⟨xa, exa⟩ : ∃ xa : Nat, srI NM it wd = xa := ⟨(srI NM it wd).toNat, by omega⟩
      rw [exa]
      refine g_aload_n k rfl dX4_readFact_42 ?_
      refine g_cVv k 4 (As := []) v_X4_step rfl rfl ha ml_X4_54 (c_X4_step (a := a) ⟨ha, hn⟩ hT0 hn7 hBy d1 hlm (by omega)) (by omega) (by omega) rfl (Nat.le_of_ble_eq_true rfl) rfl dX4_readFact_43 (fun h43 p43 => ?_)
      obtain ⟨⟨na, nn⟩, nfr⟩ := p43
      have ha_ : h43 a = some (ob 4 [vi (ft : Int), .ref (a + 1), vi (fp : Int), vi (lm : Int), vi ((nxT T n lm (tk, pl, nt, wd)).2.1 : Int), vi ((nxT T n lm (tk, pl, nt, wd)).2.2.1 : Int), vi ((nxT T n lm (tk, pl, nt, wd)).1 : Int), vl ((nxT T n lm (tk, pl, nt, wd)).2.2.2), .ref (a + 5), .ref t, .ref r]) := na
      have hn_ : h43 (a + 5) = some (al G 8 NM) := nn
      have hd_ : h43 (a + 1) = some (ob 0 [vi (it : Int), vi (φ.length : Int), .ref (a + 1 + 1), .ref (a + 1 + 2), .ref (a + 1 + 3)]) := (nfr _ (by omega)).trans hd
      have fr_ : ∀ q : Nat, ((q < a ∨ a + 4 < q) ∧ (q < r ∨ r + 2 < q)) → h43 q = h q := fun q hq => (nfr q (by omega)).trans (fr0 q hq)
      have ko1 : TkO n (nxT T n lm (tk, pl, nt, wd)) := stF_ok hlm (by omega)
      obtain ⟨u11, u12, u13, u14⟩ := id ko1
      have hF1 := hF0.keep (h' := h43) (fun q g1 g2 => nfr q (by omega))
      have hV1 := hV0.keep (h' := h43) (fun q g1 g2 => nfr q (by omega))
      have hT1 := hT0.keep (h' := h43) (fun q g1 => nfr q (by omega))
      have l1 := @lc0 (nxT T n lm (tk, pl, nt, wd)).2.2.2 72564293
      have l2 := @lcr (nxT T n lm (tk, pl, nt, wd)).2.2.2 72564293
      have l3 := @lc0 (nxT T n lm (tk, pl, nt, wd)).2.2.2 72983685
      have l4 := @lcr (nxT T n lm (tk, pl, nt, wd)).2.2.2 72983685
      have K86 : ∀ (hkw : (nxT T n lm (tk, pl, nt, wd)).1 = 1 ∧ ((nxT T n lm (tk, pl, nt, wd)).2.2.2 = 72564293 ∨ (nxT T n lm (tk, pl, nt, wd)).2.2.2 = 72983685)), Go G X 5 QQ 0 0 nx 86 [(0, .ref a), (1, vi (pl : Int)), (2, vi (xa : Int))] [] h43 := by
        intro hkw
        have K102 : ∀ (kz : Nat) (hkz : kz = (if (nxT T n lm (tk, pl, nt, wd)).2.2.2 = 72564293 then 0 else 1) ∧ kz ≤ 1), Go G X 5 QQ 0 0 nx 102 [(0, .ref a), (1, vi (pl : Int)), (2, vi (xa : Int))] [vi (kz : Int)] h43 := by
          intro kz hkz
          refine g_istore_n k (lv2 := [(0, .ref a), (1, vi (pl : Int)), (2, vi (xa : Int)), (3, vi (kz : Int))]) (by decide) rfl rfl dX4_readFact_102 ?_
          refine g_aload_n k rfl dX4_readFact_103 ?_
          refine g_cVv k 4 (As := []) v_X4_step rfl rfl ha_ ml_X4_54 (c_X4_step (a := a) ⟨ha_, hn_⟩ hT1 hn7 hBy d1 hlm (by omega)) (by omega) (by omega) rfl (Nat.le_of_ble_eq_true rfl) rfl dX4_readFact_104 (fun h104 p104 => ?_)
          obtain ⟨⟨na, nn⟩, nfr⟩ := p104
          have ha__1 : h104 a = some (ob 4 [vi (ft : Int), .ref (a + 1), vi (fp : Int), vi (lm : Int), vi ((nxT T n lm (nxT T n lm (tk, pl, nt, wd))).2.1 : Int), vi ((nxT T n lm (nxT T n lm (tk, pl, nt, wd))).2.2.1 : Int), vi ((nxT T n lm (nxT T n lm (tk, pl, nt, wd))).1 : Int), vl ((nxT T n lm (nxT T n lm (tk, pl, nt, wd))).2.2.2), .ref (a + 5), .ref t, .ref r]) := na
          have hn__1 : h104 (a + 5) = some (al G 8 NM) := nn
          have hd__1 : h104 (a + 1) = some (ob 0 [vi (it : Int), vi (φ.length : Int), .ref (a + 1 + 1), .ref (a + 1 + 2), .ref (a + 1 + 3)]) := (nfr _ (by omega)).trans hd_
          have fr__1 : ∀ q : Nat, ((q < a ∨ a + 4 < q) ∧ (q < r ∨ r + 2 < q)) → h104 q = h q := fun q hq => (nfr q (by omega)).trans (fr_ q hq)
          have ko2 : TkO n (nxT T n lm (nxT T n lm (tk, pl, nt, wd))) := stF_ok hlm (by omega)
          obtain ⟨u21, u22, u23, u24⟩ := id ko2
          have hF2 := hF1.keep (h' := h104) (fun q g1 g2 => nfr q (by omega))
          have hV2 := hV1.keep (h' := h104) (fun q g1 g2 => nfr q (by omega))
          have hT2 := hT1.keep (h' := h104) (fun q g1 => nfr q (by omega))
          have hsb := sr_b (P := fun i => NM i = (nxT T n lm (nxT T n lm (tk, pl, nt, wd))).2.2.2) (n := it)
          have hsb : -1 ≤ srI NM it (nxT T n lm (nxT T n lm (tk, pl, nt, wd))).2.2.2 ∧ (srI NM it (nxT T n lm (nxT T n lm (tk, pl, nt, wd))).2.2.2 < it ∨ srI NM it (nxT T n lm (nxT T n lm (tk, pl, nt, wd))).2.2.2 = -1) := hsb
          refine g_aload_n k rfl dX4_readFact_107 ?_
          refine g_cVi k 4 (As := []) v_X4_isName rfl rfl ha__1 ml_X4_89 (c_X4_isName ⟨ha__1, hn__1⟩ (fun q => u24 (by omega)) (by omega)) (by omega) (by omega) rfl (Nat.le_of_ble_eq_true rfl) rfl dX4_readFact_108 (fun r108 h108 p108 => ?_)
          obtain ⟨eh108, p108⟩ := p108
          have eh108 := eh108.symm; subst eh108
          have q8 := p108
          have q8r := q8.r
          refine g_if_ne k (tgt := 124) (by omega) dX4_readFact_111 (by decide) (fun c111 => ?_) (fun c111 => ?_)
          · skip
            have hnm2 := q8.t (by omega)
            have hnm21 := isNm_b hnm2
            refine g_aload_n k rfl dX4_readFact_124 ?_
            refine g_cVi k 4 (As := []) v_X4_itemNamed rfl rfl ha__1 ml_X4_92 (c_X4_itemNamed ⟨ha__1, hn__1⟩ (u24 (by omega)) h8 hd__1 hN0 (K := [])) (by omega) (by omega) rfl (Nat.le_of_ble_eq_true rfl) rfl dX4_readFact_125 (fun r125 h125 p125 => ?_)
            obtain ⟨eh125, p125⟩ := p125
            have eh125 := eh125.symm; subst eh125
            subst p125
            refine g_istore k (lv2 := [(0, .ref a), (1, vi (pl : Int)), (2, vi (xa : Int)), (3, vi (kz : Int)), (4, vi (srI NM it (nxT T n lm (nxT T n lm (tk, pl, nt, wd))).2.2.2))]) (by decide) rfl rfl dX4_readFact_128 ?_
            refine g_iload k rfl dX4_readFact_130 ?_
            refine g_iconst k dX4_readFact_132 ?_
            refine g_icmp_eq k (tgt := 156) (by omega) (by omega) dX4_readFact_133 (by decide) (fun c133 => ?_) (fun c133 => ?_)
            · skip
              refine g_aload_n k rfl dX4_readFact_156 ?_
              refine g_iconst k dX4_readFact_157 ?_
              refine g_aload_n k rfl dX4_readFact_158 ?_
              refine g_get k 4 4 (C := RX4) (T := TX4) (N := 11) fl_X4_86 rfl wi_X4 (by decide) rfl ha__1 rfl dX4_readFact_159 ?_
              refine g_cVi k 4 (As := [vi 2, vi ((nxT T n lm (nxT T n lm (tk, pl, nt, wd))).2.1 : Int)]) v_X4_fail rfl rfl ha__1 ml_X4_70 (c_X4_fail ⟨ha__1, hn__1⟩) (by omega) (by omega) rfl (Nat.le_of_ble_eq_true rfl) rfl dX4_readFact_162 (fun r162 h162 p162 => ?_)
              obtain ⟨p162e, ⟨na, nn⟩, nfr⟩ := p162
              subst p162e
              have ha__2 : h162 a = some (ob 4 [vi 2, .ref (a + 1), vi ((nxT T n lm (nxT T n lm (tk, pl, nt, wd))).2.1 : Int), vi (lm : Int), vi ((nxT T n lm (nxT T n lm (tk, pl, nt, wd))).2.1 : Int), vi ((nxT T n lm (nxT T n lm (tk, pl, nt, wd))).2.2.1 : Int), vi ((nxT T n lm (nxT T n lm (tk, pl, nt, wd))).1 : Int), vl ((nxT T n lm (nxT T n lm (tk, pl, nt, wd))).2.2.2), .ref (a + 5), .ref t, .ref r]) := na
              have hn__2 : h162 (a + 5) = some (al G 8 NM) := nn
              have hd__2 : h162 (a + 1) = some (ob 0 [vi (it : Int), vi (φ.length : Int), .ref (a + 1 + 1), .ref (a + 1 + 2), .ref (a + 1 + 3)]) := (nfr _ (by omega)).trans hd__1
              have fr__2 : ∀ q : Nat, ((q < a ∨ a + 4 < q) ∧ (q < r ∨ r + 2 < q)) → h162 q = h q := fun q hq => (nfr q (by omega)).trans (fr__1 q hq)
              rw [← hQQ]
              refine g_zreti k (by omega) rfl dX4_readFact_165 ?_
              unfold rFact
              dsimp only
              rw [if_neg (fun z => z hnm), if_neg (show ¬ srI NM it wd = -1 by omega), if_neg (fun z => z hkw), if_neg (fun z => z hnm2), if_pos (Or.inl (by omega))]
              exact ⟨bz.n (fun q => q), ⟨⟨ha__2, hn__2⟩, hF2.keep (fun q g1 g2 => nfr q (by omega)), hS0, hV2.keep (fun q g1 g2 => nfr q (by omega)), ko2, hN0, by dsimp only; omega, by dsimp only; omega⟩, fun q g1 g2 => fr__2 q ⟨by omega, g2⟩⟩
            · skip
              obtain ⟨xb, exb⟩ : ∃ xb : Nat, srI NM it (nxT T n lm (nxT T n lm (tk, pl, nt, wd))).2.2.2 = xb := ⟨(srI NM it (nxT T n lm (nxT T n lm (tk, pl, nt, wd))).2.2.2).toNat, by omega⟩
              rw [exb]
              refine g_iload k rfl dX4_readFact_136 ?_
              refine g_iload_n k rfl dX4_readFact_138 ?_
              refine g_icmp_eq k (tgt := 156) (by omega) (by omega) dX4_readFact_139 (by decide) (fun c139 => ?_) (fun c139 => ?_)
              · skip
                refine g_aload_n k rfl dX4_readFact_156 ?_
                refine g_iconst k dX4_readFact_157 ?_
                refine g_aload_n k rfl dX4_readFact_158 ?_
                refine g_get k 4 4 (C := RX4) (T := TX4) (N := 11) fl_X4_86 rfl wi_X4 (by decide) rfl ha__1 rfl dX4_readFact_159 ?_
                refine g_cVi k 4 (As := [vi 2, vi ((nxT T n lm (nxT T n lm (tk, pl, nt, wd))).2.1 : Int)]) v_X4_fail rfl rfl ha__1 ml_X4_70 (c_X4_fail ⟨ha__1, hn__1⟩) (by omega) (by omega) rfl (Nat.le_of_ble_eq_true rfl) rfl dX4_readFact_162 (fun r162_1 h162_1 p162_1 => ?_)
                obtain ⟨p162_1e, ⟨na, nn⟩, nfr⟩ := p162_1
                subst p162_1e
                have ha__3 : h162_1 a = some (ob 4 [vi 2, .ref (a + 1), vi ((nxT T n lm (nxT T n lm (tk, pl, nt, wd))).2.1 : Int), vi (lm : Int), vi ((nxT T n lm (nxT T n lm (tk, pl, nt, wd))).2.1 : Int), vi ((nxT T n lm (nxT T n lm (tk, pl, nt, wd))).2.2.1 : Int), vi ((nxT T n lm (nxT T n lm (tk, pl, nt, wd))).1 : Int), vl ((nxT T n lm (nxT T n lm (tk, pl, nt, wd))).2.2.2), .ref (a + 5), .ref t, .ref r]) := na
                have hn__3 : h162_1 (a + 5) = some (al G 8 NM) := nn
                have hd__3 : h162_1 (a + 1) = some (ob 0 [vi (it : Int), vi (φ.length : Int), .ref (a + 1 + 1), .ref (a + 1 + 2), .ref (a + 1 + 3)]) := (nfr _ (by omega)).trans hd__1
                have fr__3 : ∀ q : Nat, ((q < a ∨ a + 4 < q) ∧ (q < r ∨ r + 2 < q)) → h162_1 q = h q := fun q hq => (nfr q (by omega)).trans (fr__1 q hq)
                rw [← hQQ]
                refine g_zreti k (by omega) rfl dX4_readFact_165 ?_
                unfold rFact
                dsimp only
                rw [if_neg (fun z => z hnm), if_neg (show ¬ srI NM it wd = -1 by omega), if_neg (fun z => z hkw), if_neg (fun z => z hnm2), if_pos (Or.inr (Or.inl (by omega)))]
                exact ⟨bz.n (fun q => q), ⟨⟨ha__3, hn__3⟩, hF2.keep (fun q g1 g2 => nfr q (by omega)), hS0, hV2.keep (fun q g1 g2 => nfr q (by omega)), ko2, hN0, by dsimp only; omega, by dsimp only; omega⟩, fun q g1 g2 => fr__3 q ⟨by omega, g2⟩⟩
              · skip
                refine g_aload_n k rfl dX4_readFact_142 ?_
                refine g_get k 4 1 (C := RX4) (T := TX4) (N := 11) fl_X4_14 rfl wi_X4 (by decide) rfl ha__1 rfl dX4_readFact_143 ?_
                refine g_iload_n k rfl dX4_readFact_146 ?_
                refine g_iload k rfl dX4_readFact_147 ?_
                refine g_cVi k 0 (As := [vi (xa : Int), vi (xb : Int)]) v_X0_indexOf rfl rfl hd__1 ml_X4_103 (c_X0_indexOf hF2 hS0 (p := (xa : Int)) (q := (xb : Int)) (by omega) (by omega)) (by omega) (by omega) rfl (Nat.le_of_ble_eq_true rfl) rfl dX4_readFact_149 (fun r149 h149 p149 => ?_)
                obtain ⟨eh149, p149⟩ := p149
                have eh149 := eh149.symm; subst eh149
                subst p149
                have hixb := sr_b (P := pm φ (xa : Int) (xb : Int)) (n := φ.length)
                have hixb : -1 ≤ ix φ (xa : Int) (xb : Int) ∧ (ix φ (xa : Int) (xb : Int) < φ.length ∨ ix φ (xa : Int) (xb : Int) = -1) := hixb
                have h28 := hS0.2.1
                refine g_iconst k dX4_readFact_152 ?_
                refine g_icmp_eq k (tgt := 166) (by omega) (by omega) dX4_readFact_153 (by decide) (fun c153 => ?_) (fun c153 => ?_)
                · skip
                  refine g_aload_n k rfl dX4_readFact_166 ?_
                  refine g_cVi k 4 (As := []) v_X4_readStop rfl rfl ha__1 ml_X4_96 (c_X4_readStop (tk := (nxT T n lm (nxT T n lm (tk, pl, nt, wd))).1) (pl := (nxT T n lm (nxT T n lm (tk, pl, nt, wd))).2.1) (nt := (nxT T n lm (nxT T n lm (tk, pl, nt, wd))).2.2.1) (wd := (nxT T n lm (nxT T n lm (tk, pl, nt, wd))).2.2.2) (it := it) (φ := φ) (NM := NM) (ft := ft) (fp := fp) (V := V) ⟨⟨ha__1, hn__1⟩, hF2, hS0, hV2, ko2, hN0, hft, hfp⟩ hT2 hn7 hlm hBy hLa) (by omega) (by omega) rfl (Nat.le_of_ble_eq_true rfl) rfl dX4_readFact_167 (fun r167 h167 p167 => ?_)
                  obtain ⟨pz, nRD, nfr9⟩ := p167
                  have fr__4 : ∀ q : Nat, ((q < a ∨ a + 4 < q) ∧ (q < r ∨ r + 2 < q)) → h167 q = h q := fun q hq => (nfr9 q (by omega)).trans (fr__1 q hq)
                  have pzr := pz.r
                  refine g_if_ne k (tgt := 175) (by omega) dX4_readFact_170 (by decide) (fun c170 => ?_) (fun c170 => ?_)
                  · skip
                    rw [rStop_y (pz.t (by omega))] at nRD
                    obtain ⟨⟨za, zn⟩, zF, zS, zV, zk, -, -, -⟩ := id nRD
                    have zF0 : FA G h167 (a + 1) it φ := zF
                    obtain ⟨K6, F6, Z6, hd6, hdk6, hdf6, hds6, hrr6⟩ := id zF0
                    have zV0 : GV G h167 r V := zV
                    obtain ⟨rw9, S9, hGA, hrw9⟩ := id zV0
                    have zk : TkO n (nxT T n lm (nxT T n lm (nxT T n lm (tk, pl, nt, wd)))) := zk
                    refine g_aload_n k rfl dX4_readFact_175 ?_
                    refine g_get k 4 10 (C := RX4) (T := TX4) (N := 11) fl_X4_26 rfl wi_X4 (by decide) rfl za rfl dX4_readFact_176 ?_
                    refine g_aload_n k rfl dX4_readFact_179 ?_
                    refine g_get k 4 1 (C := RX4) (T := TX4) (N := 11) fl_X4_14 rfl wi_X4 (by decide) rfl za rfl dX4_readFact_180 ?_
                    refine g_iconst k dX4_readFact_183 ?_
                    refine g_iload_n k rfl dX4_readFact_184 ?_
                    refine g_iload_n k rfl dX4_readFact_185 ?_
                    refine g_iload k rfl dX4_readFact_186 ?_
                    refine g_cVi k 5 (As := [.ref (a + 1), vi 0, vi (kz : Int), vi (xa : Int), vi (xb : Int)]) v_X5_seek rfl rfl hGA.1 ml_X4_106 (c_seekV zV0 zF0 hS0 (by omega) (w := 0) (by omega) (k1 := kz) (x := xa) (y := xb) hkz.2 (by omega) (by omega)) (by omega) (by omega) rfl (Nat.le_of_ble_eq_true rfl) rfl dX4_readFact_188 (fun r188 h188 p188 => ?_)
                    obtain ⟨sz, nV, nfr8⟩ := p188
                    have ha__5 : h188 a = some (ob 4 [vi (ft : Int), .ref (a + 1), vi (fp : Int), vi (lm : Int), vi ((nxT T n lm (nxT T n lm (nxT T n lm (tk, pl, nt, wd)))).2.1 : Int), vi ((nxT T n lm (nxT T n lm (nxT T n lm (tk, pl, nt, wd)))).2.2.1 : Int), vi ((nxT T n lm (nxT T n lm (nxT T n lm (tk, pl, nt, wd)))).1 : Int), vl ((nxT T n lm (nxT T n lm (nxT T n lm (tk, pl, nt, wd)))).2.2.2), .ref (a + 5), .ref t, .ref r]) := (nfr8 _ (by omega)).trans za
                    have hn__5 : h188 (a + 5) = some (al G 8 NM) := (nfr8 _ (by omega)).trans zn
                    have hd__5 : h188 (a + 1) = some (ob 0 [vi (it : Int), vi (φ.length : Int), .ref (a + 1 + 1), .ref (a + 1 + 2), .ref (a + 1 + 3)]) := (nfr8 _ (by omega)).trans hd6
                    have fr__5 : ∀ q : Nat, ((q < a ∨ a + 4 < q) ∧ (q < r ∨ r + 2 < q)) → h188 q = h q := fun q hq => (nfr8 q (by omega)).trans (fr__4 q hq)
                    have szr := sz.r
                    refine g_if_eq k (tgt := 201) (by omega) dX4_readFact_191 (by decide) (fun c191 => ?_) (fun c191 => ?_)
                    · skip
                      have hix : ix φ (xa : Int) (xb : Int) = -1 := by omega
                      refine g_aload_n k rfl dX4_readFact_201 ?_
                      refine g_get k 4 1 (C := RX4) (T := TX4) (N := 11) fl_X4_14 rfl wi_X4 (by decide) rfl ha__5 rfl dX4_readFact_202 ?_
                      refine g_iload_n k rfl dX4_readFact_205 ?_
                      refine g_iload_n k rfl dX4_readFact_206 ?_
                      refine g_iload k rfl dX4_readFact_207 ?_
                      refine g_cVv k 0 (As := [vi (kz : Int), vi (xa : Int), vi (xb : Int)]) v_X0_add rfl rfl hd__5 ml_X4_112 (c_X0_add ⟨hd__5, (nfr8 _ (by omega)).trans hdk6, (nfr8 _ (by omega)).trans hdf6, (nfr8 _ (by omega)).trans hds6⟩ (len28 hS0 (x := xa) (y := xb) (by omega) (by omega) (by omega) hix) (x := (kz : Int)) (y := (xa : Int)) (z := (xb : Int))) (by omega) (by omega) rfl (Nat.le_of_ble_eq_true rfl) rfl dX4_readFact_209 (fun h209 p209 => ?_)
                      obtain ⟨⟨ma, mk, mf, ms⟩, nfr7⟩ := p209
                      have ha__6 : h209 a = some (ob 4 [vi (ft : Int), .ref (a + 1), vi (fp : Int), vi (lm : Int), vi ((nxT T n lm (nxT T n lm (nxT T n lm (tk, pl, nt, wd)))).2.1 : Int), vi ((nxT T n lm (nxT T n lm (nxT T n lm (tk, pl, nt, wd)))).2.2.1 : Int), vi ((nxT T n lm (nxT T n lm (nxT T n lm (tk, pl, nt, wd)))).1 : Int), vl ((nxT T n lm (nxT T n lm (nxT T n lm (tk, pl, nt, wd)))).2.2.2), .ref (a + 5), .ref t, .ref r]) := (nfr7 _ (by omega)).trans ha__5
                      have hn__6 : h209 (a + 5) = some (al G 8 NM) := (nfr7 _ (by omega)).trans hn__5
                      have fr__6 : ∀ q : Nat, ((q < a ∨ a + 4 < q) ∧ (q < r ∨ r + 2 < q)) → h209 q = h q := fun q hq => (nfr7 q (by omega)).trans (fr__5 q hq)
                      refine g_iconst k dX4_readFact_212 ?_
                      rw [← hQQ]
                      refine g_zreti k (by omega) rfl dX4_readFact_213 ?_
                      have hb5 : ¬ (srI NM it (nxT T n lm (nxT T n lm (tk, pl, nt, wd))).2.2.2 = -1 ∨ srI NM it (nxT T n lm (nxT T n lm (tk, pl, nt, wd))).2.2.2 = srI NM it wd ∨ ¬ ix φ (srI NM it wd) (srI NM it (nxT T n lm (nxT T n lm (tk, pl, nt, wd))).2.2.2) = -1) := by rw [exa, exb]; omega
                      have hrf := sz.f (by omega)
                      have eF : rFact T n lm ((tk, pl, nt, wd), it, φ, NM, ft, fp, V) = (True, ((nxT T n lm (nxT T n lm (nxT T n lm (tk, pl, nt, wd)))), it, φ ++ [(kz, xa, xb)], NM, ft, fp, V)) := by
                        unfold rFact
                        dsimp only
                        rw [if_neg (fun z => z hnm), if_neg (show ¬ srI NM it wd = -1 by omega), if_neg (fun z => z hkw), if_neg (fun z => z hnm2), if_neg hb5, if_neg (fun z => z (pz.t (by omega))), exa, exb, Int.toNat_natCast, Int.toNat_natCast, ← hkz.1, if_neg hrf, rStop_y (pz.t (by omega))]
                      rw [eF]
                      have eV : skV φ 0 it kz xa xb V = V := by rw [skV, if_neg (show ¬ 0 < (skN φ 0 it kz xa xb).1 from hrf)]
                      rw [eV] at nV
                      exact ⟨bz.y trivial, ⟨⟨ha__6, hn__6⟩, ⟨_, _, _, by rw [show (φ ++ [(kz, xa, xb)]).length = φ.length + 1 from List.length_append]; exact ma, mk, mf, ms, hrr6.add⟩, Sm.add hS0 hkz.2 (by omega) (by omega) (by omega) hix, nV.keep (fun q g1 g2 => nfr7 q (by omega)), zk, hN0, hft, hfp⟩, fun q g1 g2 => fr__6 q ⟨by omega, g2⟩⟩
                    · skip
                      refine g_aload_n k rfl dX4_readFact_194 ?_
                      refine g_iconst k dX4_readFact_195 ?_
                      refine g_iload_n k rfl dX4_readFact_196 ?_
                      refine g_cVi k 4 (As := [vi 4, vi (pl : Int)]) v_X4_fail rfl rfl ha__5 ml_X4_70 (c_X4_fail ⟨ha__5, hn__5⟩) (by omega) (by omega) rfl (Nat.le_of_ble_eq_true rfl) rfl dX4_readFact_197 (fun r197 h197 p197 => ?_)
                      obtain ⟨p197e, ⟨na, nn⟩, nfr⟩ := p197
                      subst p197e
                      have ha__7 : h197 a = some (ob 4 [vi 4, .ref (a + 1), vi (pl : Int), vi (lm : Int), vi ((nxT T n lm (nxT T n lm (nxT T n lm (tk, pl, nt, wd)))).2.1 : Int), vi ((nxT T n lm (nxT T n lm (nxT T n lm (tk, pl, nt, wd)))).2.2.1 : Int), vi ((nxT T n lm (nxT T n lm (nxT T n lm (tk, pl, nt, wd)))).1 : Int), vl ((nxT T n lm (nxT T n lm (nxT T n lm (tk, pl, nt, wd)))).2.2.2), .ref (a + 5), .ref t, .ref r]) := na
                      have hn__7 : h197 (a + 5) = some (al G 8 NM) := nn
                      have hd__7 : h197 (a + 1) = some (ob 0 [vi (it : Int), vi (φ.length : Int), .ref (a + 1 + 1), .ref (a + 1 + 2), .ref (a + 1 + 3)]) := (nfr _ (by omega)).trans hd__5
                      have fr__7 : ∀ q : Nat, ((q < a ∨ a + 4 < q) ∧ (q < r ∨ r + 2 < q)) → h197 q = h q := fun q hq => (nfr q (by omega)).trans (fr__5 q hq)
                      rw [← hQQ]
                      refine g_zreti k (by omega) rfl dX4_readFact_200 ?_
                      have hb5 : ¬ (srI NM it (nxT T n lm (nxT T n lm (tk, pl, nt, wd))).2.2.2 = -1 ∨ srI NM it (nxT T n lm (nxT T n lm (tk, pl, nt, wd))).2.2.2 = srI NM it wd ∨ ¬ ix φ (srI NM it wd) (srI NM it (nxT T n lm (nxT T n lm (tk, pl, nt, wd))).2.2.2) = -1) := by rw [exa, exb]; omega
                      have hrf := sz.t (by omega)
                      have eF : rFact T n lm ((tk, pl, nt, wd), it, φ, NM, ft, fp, V) = (False, ((nxT T n lm (nxT T n lm (nxT T n lm (tk, pl, nt, wd)))), it, φ, NM, 4, pl, skV φ 0 it kz xa xb V)) := by
                        unfold rFact
                        dsimp only
                        rw [if_neg (fun z => z hnm), if_neg (show ¬ srI NM it wd = -1 by omega), if_neg (fun z => z hkw), if_neg (fun z => z hnm2), if_neg hb5, if_neg (fun z => z (pz.t (by omega))), exa, exb, Int.toNat_natCast, Int.toNat_natCast, ← hkz.1, if_pos hrf, rStop_y (pz.t (by omega))]
                      rw [eF]
                      exact ⟨bz.n (fun q => q), ⟨⟨ha__7, hn__7⟩, zF0.keep (fun q g1 g2 => (nfr q (by omega)).trans (nfr8 q (by omega))), hS0, nV.keep (fun q g1 g2 => nfr q (by omega)), zk, hN0, by dsimp only; omega, by dsimp only; omega⟩, fun q g1 g2 => fr__7 q ⟨by omega, g2⟩⟩
                  · skip
                    refine g_iconst k dX4_readFact_173 ?_
                    rw [← hQQ]
                    refine g_zreti k (by omega) rfl dX4_readFact_174 ?_
                    have hb5 : ¬ (srI NM it (nxT T n lm (nxT T n lm (tk, pl, nt, wd))).2.2.2 = -1 ∨ srI NM it (nxT T n lm (nxT T n lm (tk, pl, nt, wd))).2.2.2 = srI NM it wd ∨ ¬ ix φ (srI NM it wd) (srI NM it (nxT T n lm (nxT T n lm (tk, pl, nt, wd))).2.2.2) = -1) := by rw [exa, exb]; omega
                    have eF : rFact T n lm ((tk, pl, nt, wd), it, φ, NM, ft, fp, V) = (False, (rStop T n lm ((nxT T n lm (nxT T n lm (tk, pl, nt, wd))), it, φ, NM, ft, fp, V)).2) := by
                      unfold rFact
                      dsimp only
                      rw [if_neg (fun z => z hnm), if_neg (show ¬ srI NM it wd = -1 by omega), if_neg (fun z => z hkw), if_neg (fun z => z hnm2), if_neg hb5, if_pos (pz.f (by omega))]
                    rw [eF]
                    exact ⟨bz.n (fun q => q), nRD, fun q g1 g2 => fr__4 q ⟨by omega, g2⟩⟩
                · skip
                  refine g_aload_n k rfl dX4_readFact_156 ?_
                  refine g_iconst k dX4_readFact_157 ?_
                  refine g_aload_n k rfl dX4_readFact_158 ?_
                  refine g_get k 4 4 (C := RX4) (T := TX4) (N := 11) fl_X4_86 rfl wi_X4 (by decide) rfl ha__1 rfl dX4_readFact_159 ?_
                  refine g_cVi k 4 (As := [vi 2, vi ((nxT T n lm (nxT T n lm (tk, pl, nt, wd))).2.1 : Int)]) v_X4_fail rfl rfl ha__1 ml_X4_70 (c_X4_fail ⟨ha__1, hn__1⟩) (by omega) (by omega) rfl (Nat.le_of_ble_eq_true rfl) rfl dX4_readFact_162 (fun r162_2 h162_2 p162_2 => ?_)
                  obtain ⟨p162_2e, ⟨na, nn⟩, nfr⟩ := p162_2
                  subst p162_2e
                  have ha__8 : h162_2 a = some (ob 4 [vi 2, .ref (a + 1), vi ((nxT T n lm (nxT T n lm (tk, pl, nt, wd))).2.1 : Int), vi (lm : Int), vi ((nxT T n lm (nxT T n lm (tk, pl, nt, wd))).2.1 : Int), vi ((nxT T n lm (nxT T n lm (tk, pl, nt, wd))).2.2.1 : Int), vi ((nxT T n lm (nxT T n lm (tk, pl, nt, wd))).1 : Int), vl ((nxT T n lm (nxT T n lm (tk, pl, nt, wd))).2.2.2), .ref (a + 5), .ref t, .ref r]) := na
                  have hn__8 : h162_2 (a + 5) = some (al G 8 NM) := nn
                  have hd__8 : h162_2 (a + 1) = some (ob 0 [vi (it : Int), vi (φ.length : Int), .ref (a + 1 + 1), .ref (a + 1 + 2), .ref (a + 1 + 3)]) := (nfr _ (by omega)).trans hd__1
                  have fr__8 : ∀ q : Nat, ((q < a ∨ a + 4 < q) ∧ (q < r ∨ r + 2 < q)) → h162_2 q = h q := fun q hq => (nfr q (by omega)).trans (fr__1 q hq)
                  rw [← hQQ]
                  refine g_zreti k (by omega) rfl dX4_readFact_165 ?_
                  unfold rFact
                  dsimp only
                  rw [if_neg (fun z => z hnm), if_neg (show ¬ srI NM it wd = -1 by omega), if_neg (fun z => z hkw), if_neg (fun z => z hnm2), if_pos (Or.inr (Or.inr (by rw [exa, exb]; omega)))]
                  exact ⟨bz.n (fun q => q), ⟨⟨ha__8, hn__8⟩, hF2.keep (fun q g1 g2 => nfr q (by omega)), hS0, hV2.keep (fun q g1 g2 => nfr q (by omega)), ko2, hN0, by dsimp only; omega, by dsimp only; omega⟩, fun q g1 g2 => fr__8 q ⟨by omega, g2⟩⟩
          · skip
            refine g_aload_n k rfl dX4_readFact_114 ?_
            refine g_iconst k dX4_readFact_115 ?_
            refine g_aload_n k rfl dX4_readFact_116 ?_
            refine g_get k 4 4 (C := RX4) (T := TX4) (N := 11) fl_X4_86 rfl wi_X4 (by decide) rfl ha__1 rfl dX4_readFact_117 ?_
            refine g_cVi k 4 (As := [vi 1, vi ((nxT T n lm (nxT T n lm (tk, pl, nt, wd))).2.1 : Int)]) v_X4_fail rfl rfl ha__1 ml_X4_70 (c_X4_fail ⟨ha__1, hn__1⟩) (by omega) (by omega) rfl (Nat.le_of_ble_eq_true rfl) rfl dX4_readFact_120 (fun r120 h120 p120 => ?_)
            obtain ⟨p120e, ⟨na, nn⟩, nfr⟩ := p120
            subst p120e
            have ha__9 : h120 a = some (ob 4 [vi 1, .ref (a + 1), vi ((nxT T n lm (nxT T n lm (tk, pl, nt, wd))).2.1 : Int), vi (lm : Int), vi ((nxT T n lm (nxT T n lm (tk, pl, nt, wd))).2.1 : Int), vi ((nxT T n lm (nxT T n lm (tk, pl, nt, wd))).2.2.1 : Int), vi ((nxT T n lm (nxT T n lm (tk, pl, nt, wd))).1 : Int), vl ((nxT T n lm (nxT T n lm (tk, pl, nt, wd))).2.2.2), .ref (a + 5), .ref t, .ref r]) := na
            have hn__9 : h120 (a + 5) = some (al G 8 NM) := nn
            have hd__9 : h120 (a + 1) = some (ob 0 [vi (it : Int), vi (φ.length : Int), .ref (a + 1 + 1), .ref (a + 1 + 2), .ref (a + 1 + 3)]) := (nfr _ (by omega)).trans hd__1
            have fr__9 : ∀ q : Nat, ((q < a ∨ a + 4 < q) ∧ (q < r ∨ r + 2 < q)) → h120 q = h q := fun q hq => (nfr q (by omega)).trans (fr__1 q hq)
            rw [← hQQ]
            refine g_zreti k (by omega) rfl dX4_readFact_123 ?_
            unfold rFact
            dsimp only
            rw [if_neg (fun z => z hnm), if_neg (show ¬ srI NM it wd = -1 by omega), if_neg (fun z => z hkw), if_pos (q8.f (by omega))]
            exact ⟨bz.n (fun q => q), ⟨⟨ha__9, hn__9⟩, hF2.keep (fun q g1 g2 => nfr q (by omega)), hS0, hV2.keep (fun q g1 g2 => nfr q (by omega)), ko2, hN0, by dsimp only; omega, by dsimp only; omega⟩, fun q g1 g2 => fr__9 q ⟨by omega, g2⟩⟩
        refine g_aload_n k rfl dX4_readFact_86 ?_
        refine g_get k 4 7 (C := RX4) (T := TX4) (N := 11) fl_X4_77 rfl wi_X4 (by decide) rfl ha_ rfl dX4_readFact_87 ?_
        refine g_ldc2 k (z := 72564293) cn_X4_99 rfl dX4_readFact_90 ?_
        refine g_lcmp k (by omega) (by omega) dX4_readFact_93 ?_
        refine g_if_ne k (tgt := 101) (by omega) dX4_readFact_94 (by decide) (fun c94 => ?_) (fun c94 => ?_)
        · skip
          refine g_iconst k dX4_readFact_101 ?_
          exact K102 1 ⟨by rw [if_neg (by omega)], by omega⟩
        · skip
          refine g_iconst k dX4_readFact_97 ?_
          refine g_goto k (tgt := 102) dX4_readFact_98 (by decide) ?_
          exact K102 0 ⟨by rw [if_pos (by omega)], by omega⟩
      refine g_aload_n k rfl dX4_readFact_46 ?_
      refine g_get k 4 6 (C := RX4) (T := TX4) (N := 11) fl_X4_57 rfl wi_X4 (by decide) rfl ha_ rfl dX4_readFact_47 ?_
      refine g_iconst k dX4_readFact_50 ?_
      refine g_icmp_ne k (tgt := 76) (by omega) (by omega) dX4_readFact_51 (by decide) (fun c51 => ?_) (fun c51 => ?_)
      · skip
        refine g_aload_n k rfl dX4_readFact_76 ?_
        refine g_iconst k dX4_readFact_77 ?_
        refine g_aload_n k rfl dX4_readFact_78 ?_
        refine g_get k 4 4 (C := RX4) (T := TX4) (N := 11) fl_X4_86 rfl wi_X4 (by decide) rfl ha_ rfl dX4_readFact_79 ?_
        refine g_cVi k 4 (As := [vi 1, vi ((nxT T n lm (tk, pl, nt, wd)).2.1 : Int)]) v_X4_fail rfl rfl ha_ ml_X4_70 (c_X4_fail ⟨ha_, hn_⟩) (by omega) (by omega) rfl (Nat.le_of_ble_eq_true rfl) rfl dX4_readFact_82 (fun r82 h82 p82 => ?_)
        obtain ⟨p82e, ⟨na, nn⟩, nfr⟩ := p82
        subst p82e
        have ha__10 : h82 a = some (ob 4 [vi 1, .ref (a + 1), vi ((nxT T n lm (tk, pl, nt, wd)).2.1 : Int), vi (lm : Int), vi ((nxT T n lm (tk, pl, nt, wd)).2.1 : Int), vi ((nxT T n lm (tk, pl, nt, wd)).2.2.1 : Int), vi ((nxT T n lm (tk, pl, nt, wd)).1 : Int), vl ((nxT T n lm (tk, pl, nt, wd)).2.2.2), .ref (a + 5), .ref t, .ref r]) := na
        have hn__10 : h82 (a + 5) = some (al G 8 NM) := nn
        have hd__10 : h82 (a + 1) = some (ob 0 [vi (it : Int), vi (φ.length : Int), .ref (a + 1 + 1), .ref (a + 1 + 2), .ref (a + 1 + 3)]) := (nfr _ (by omega)).trans hd_
        have fr__10 : ∀ q : Nat, ((q < a ∨ a + 4 < q) ∧ (q < r ∨ r + 2 < q)) → h82 q = h q := fun q hq => (nfr q (by omega)).trans (fr_ q hq)
        rw [← hQQ]
        refine g_zreti k (by omega) rfl dX4_readFact_85 ?_
        unfold rFact
        dsimp only
        rw [if_neg (fun z => z hnm), if_neg (show ¬ srI NM it wd = -1 by omega), if_pos (fun z => by omega)]
        exact ⟨bz.n (fun q => q), ⟨⟨ha__10, hn__10⟩, hF1.keep (fun q g1 g2 => nfr q (by omega)), hS0, hV1.keep (fun q g1 g2 => nfr q (by omega)), ko1, hN0, by dsimp only; omega, by dsimp only; omega⟩, fun q g1 g2 => fr__10 q ⟨by omega, g2⟩⟩
      · skip
        have u14 := u14 (by omega)
        refine g_aload_n k rfl dX4_readFact_54 ?_
        refine g_get k 4 7 (C := RX4) (T := TX4) (N := 11) fl_X4_77 rfl wi_X4 (by decide) rfl ha_ rfl dX4_readFact_55 ?_
        refine g_ldc2 k (z := 72564293) cn_X4_99 rfl dX4_readFact_58 ?_
        refine g_lcmp k (by omega) (by omega) dX4_readFact_61 ?_
        refine g_if_eq k (tgt := 86) (by omega) dX4_readFact_62 (by decide) (fun c62 => ?_) (fun c62 => ?_)
        · skip
          exact K86 (by omega)
        · skip
          refine g_aload_n k rfl dX4_readFact_65 ?_
          refine g_get k 4 7 (C := RX4) (T := TX4) (N := 11) fl_X4_77 rfl wi_X4 (by decide) rfl ha_ rfl dX4_readFact_66 ?_
          refine g_ldc2 k (z := 72983685) cn_X4_101 rfl dX4_readFact_69 ?_
          refine g_lcmp k (by omega) (by omega) dX4_readFact_72 ?_
          refine g_if_eq k (tgt := 86) (by omega) dX4_readFact_73 (by decide) (fun c73 => ?_) (fun c73 => ?_)
          · skip
            exact K86 (by omega)
          · skip
            refine g_aload_n k rfl dX4_readFact_76 ?_
            refine g_iconst k dX4_readFact_77 ?_
            refine g_aload_n k rfl dX4_readFact_78 ?_
            refine g_get k 4 4 (C := RX4) (T := TX4) (N := 11) fl_X4_86 rfl wi_X4 (by decide) rfl ha_ rfl dX4_readFact_79 ?_
            refine g_cVi k 4 (As := [vi 1, vi ((nxT T n lm (tk, pl, nt, wd)).2.1 : Int)]) v_X4_fail rfl rfl ha_ ml_X4_70 (c_X4_fail ⟨ha_, hn_⟩) (by omega) (by omega) rfl (Nat.le_of_ble_eq_true rfl) rfl dX4_readFact_82 (fun r82_1 h82_1 p82_1 => ?_)
            obtain ⟨p82_1e, ⟨na, nn⟩, nfr⟩ := p82_1
            subst p82_1e
            have ha__11 : h82_1 a = some (ob 4 [vi 1, .ref (a + 1), vi ((nxT T n lm (tk, pl, nt, wd)).2.1 : Int), vi (lm : Int), vi ((nxT T n lm (tk, pl, nt, wd)).2.1 : Int), vi ((nxT T n lm (tk, pl, nt, wd)).2.2.1 : Int), vi ((nxT T n lm (tk, pl, nt, wd)).1 : Int), vl ((nxT T n lm (tk, pl, nt, wd)).2.2.2), .ref (a + 5), .ref t, .ref r]) := na
            have hn__11 : h82_1 (a + 5) = some (al G 8 NM) := nn
            have hd__11 : h82_1 (a + 1) = some (ob 0 [vi (it : Int), vi (φ.length : Int), .ref (a + 1 + 1), .ref (a + 1 + 2), .ref (a + 1 + 3)]) := (nfr _ (by omega)).trans hd_
            have fr__11 : ∀ q : Nat, ((q < a ∨ a + 4 < q) ∧ (q < r ∨ r + 2 < q)) → h82_1 q = h q := fun q hq => (nfr q (by omega)).trans (fr_ q hq)
            rw [← hQQ]
            refine g_zreti k (by omega) rfl dX4_readFact_85 ?_
            unfold rFact
            dsimp only
            rw [if_neg (fun z => z hnm), if_neg (show ¬ srI NM it wd = -1 by omega), if_pos (fun z => by omega)]
            exact ⟨bz.n (fun q => q), ⟨⟨ha__11, hn__11⟩, hF1.keep (fun q g1 g2 => nfr q (by omega)), hS0, hV1.keep (fun q g1 g2 => nfr q (by omega)), ko1, hN0, by dsimp only; omega, by dsimp only; omega⟩, fun q g1 g2 => fr__11 q ⟨by omega, g2⟩⟩
    · skip
      refine g_aload_n k rfl dX4_readFact_32 ?_
      refine g_iconst k dX4_readFact_33 ?_
      refine g_aload_n k rfl dX4_readFact_34 ?_
      refine g_get k 4 4 (C := RX4) (T := TX4) (N := 11) fl_X4_86 rfl wi_X4 (by decide) rfl ha rfl dX4_readFact_35 ?_
      refine g_cVi k 4 (As := [vi 2, vi (pl : Int)]) v_X4_fail rfl rfl ha ml_X4_70 (c_X4_fail ⟨ha, hn⟩) (by omega) (by omega) rfl (Nat.le_of_ble_eq_true rfl) rfl dX4_readFact_38 (fun r38 h38 p38 => ?_)
      obtain ⟨p38e, ⟨na, nn⟩, nfr⟩ := p38
      subst p38e
      have ha__12 : h38 a = some (ob 4 [vi 2, .ref (a + 1), vi (pl : Int), vi (lm : Int), vi (pl : Int), vi (nt : Int), vi (tk : Int), vl wd, .ref (a + 5), .ref t, .ref r]) := na
      have hn__12 : h38 (a + 5) = some (al G 8 NM) := nn
      have hd__12 : h38 (a + 1) = some (ob 0 [vi (it : Int), vi (φ.length : Int), .ref (a + 1 + 1), .ref (a + 1 + 2), .ref (a + 1 + 3)]) := (nfr _ (by omega)).trans hd
      have fr__12 : ∀ q : Nat, ((q < a ∨ a + 4 < q) ∧ (q < r ∨ r + 2 < q)) → h38 q = h q := fun q hq => (nfr q (by omega)).trans (fr0 q hq)
      rw [← hQQ]
      refine g_zreti k (by omega) rfl dX4_readFact_41 ?_
      unfold rFact
      dsimp only
      rw [if_neg (fun z => z hnm), if_pos (by omega)]
      exact ⟨bz.n (fun q => q), ⟨⟨ha__12, hn__12⟩, hF0.keep (fun q g1 g2 => nfr q (by omega)), hS0, hV0.keep (fun q g1 g2 => nfr q (by omega)), hk0, hN0, by dsimp only; omega, by dsimp only; omega⟩, fun q g1 g2 => fr__12 q ⟨by omega, g2⟩⟩
  · skip
    refine g_aload_n k rfl dX4_readFact_12 ?_
    refine g_iconst k dX4_readFact_13 ?_
    refine g_aload_n k rfl dX4_readFact_14 ?_
    refine g_get k 4 4 (C := RX4) (T := TX4) (N := 11) fl_X4_86 rfl wi_X4 (by decide) rfl ha rfl dX4_readFact_15 ?_
    refine g_cVi k 4 (As := [vi 1, vi (pl : Int)]) v_X4_fail rfl rfl ha ml_X4_70 (c_X4_fail ⟨ha, hn⟩) (by omega) (by omega) rfl (Nat.le_of_ble_eq_true rfl) rfl dX4_readFact_18 (fun r18 h18 p18 => ?_)
    obtain ⟨p18e, ⟨na, nn⟩, nfr⟩ := p18
    subst p18e
    have ha__13 : h18 a = some (ob 4 [vi 1, .ref (a + 1), vi (pl : Int), vi (lm : Int), vi (pl : Int), vi (nt : Int), vi (tk : Int), vl wd, .ref (a + 5), .ref t, .ref r]) := na
    have hn__13 : h18 (a + 5) = some (al G 8 NM) := nn
    have hd__13 : h18 (a + 1) = some (ob 0 [vi (it : Int), vi (φ.length : Int), .ref (a + 1 + 1), .ref (a + 1 + 2), .ref (a + 1 + 3)]) := (nfr _ (by omega)).trans hd
    have fr__13 : ∀ q : Nat, ((q < a ∨ a + 4 < q) ∧ (q < r ∨ r + 2 < q)) → h18 q = h q := fun q hq => (nfr q (by omega)).trans (fr0 q hq)
    rw [← hQQ]
    refine g_zreti k (by omega) rfl dX4_readFact_21 ?_
    unfold rFact
    dsimp only
    rw [if_pos (q6.f (by omega))]
    exact ⟨bz.n (fun q => q), ⟨⟨ha__13, hn__13⟩, hF0.keep (fun q g1 g2 => nfr q (by omega)), hS0, hV0.keep (fun q g1 g2 => nfr q (by omega)), hk0, hN0, by dsimp only; omega, by dsimp only; omega⟩, fun q g1 g2 => fr__13 q ⟨by omega, g2⟩⟩

