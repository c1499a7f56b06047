/-! the reference: a row of a fact -/
set_option maxHeartbeats 6000000 in
set_option maxRecDepth 100000 in
theorem c_X10_readFact {G : Gx} {h : Hp} {nx m n lm : Nat} {T s0 s NM : Nat → Int} {tk pl nt it ft fp : Nat} {wd : Int} {φ : Fs} {V : RV} (hC : MRC G h m s0 T ((tk, pl, nt, wd), it, φ, NM, ft, fp, V) s) (hK : TkR n (tk, pl, nt, wd) s) (hO : TkO n (tk, pl, nt, wd)) (hS : Sm it φ) (hG : Good φ) (z20 : s0 2 = (n : Int)) (hn7 : n ≤ 740) (hBy : Byt T) (hlm : lm = lmF n) (hnm : isNm (tk : Int) wd) : Con G yX10_readFact cX10_readFact 5 (some .boolean) 6 0 0 [.ref m] h nx (PI fun z h' => bz (rFact T n lm ((tk, pl, nt, wd), it, φ, NM, ft, fp, V)).1 z ∧ (∃ s2 : Nat → Int, MRC G h' m s0 T (rFact T n lm ((tk, pl, nt, wd), it, φ, NM, ft, fp, V)).2 s2 ∧ ((rFact T n lm ((tk, pl, nt, wd), it, φ, NM, ft, fp, V)).1 → TkR n (nxT T n lm (rFact T n lm ((tk, pl, nt, wd), it, φ, NM, ft, fp, V)).2.1) s2 ∧ TkO n (rFact T n lm ((tk, pl, nt, wd), it, φ, NM, ft, fp, V)).2.1 ∧ Sm (rFact T n lm ((tk, pl, nt, wd), it, φ, NM, ft, fp, V)).2.2.1 (rFact T n lm ((tk, pl, nt, wd), it, φ, NM, ft, fp, V)).2.2.2.1 ∧ Good (rFact T n lm ((tk, pl, nt, wd), it, φ, NM, ft, fp, V)).2.2.2.1 ∧ nt ≤ (rFact T n lm ((tk, pl, nt, wd), it, φ, NM, ft, fp, V)).2.1.2.2.1 ∧ (rFact T n lm ((tk, pl, nt, wd), it, φ, NM, ft, fp, V)).2.2.2.2.2.1 = ft) ∧ (¬ (rFact T n lm ((tk, pl, nt, wd), it, φ, NM, ft, fp, V)).1 → s2 7 = ((rFact T n lm ((tk, pl, nt, wd), it, φ, NM, ft, fp, V)).2.2.2.2.2.2.1 : Int) ∧ (rFact T n lm ((tk, pl, nt, wd), it, φ, NM, ft, fp, V)).2.2.2.2.2.1 ≠ 0)) ∧ ∀ q : Nat, (q ≠ m ∧ q ≠ m + 3 ∧ q ≠ m + 9 ∧ q ≠ m + 12 ∧ q ≠ m + 13 ∧ q ≠ m + 14) → h' q = h q) := by
  unfold MRC at hC
  dsimp only at hC
  obtain ⟨hm, hms, hT, ⟨Nr, hr, hR⟩, ⟨N9, h9, hN9⟩, hb12, hr13, hv14, hV, z6⟩ := hC
  have hms0 := hms
  have hln : lm ≤ n := by rw [hlm]; exact lmF_le n
  have z2 : s 2 = (n : Int) := (hms 2 (by omega)).trans z20
  have o1 : tk ≤ 3 := hO.1
  have o3 : nt ≤ n := hO.2.2.1
  obtain ⟨h8, h28, -⟩ := id hS
  have w2 := (hK.w hO.1).2.1
  have hk4 : s 4 = (pl : Int) := hK.2.1
  have hN9b : ∀ i, i < it → 0 ≤ N9 i ∧ N9 i < 10460353203 := fun i hi => Wr_b (hN9 i hi)
  obtain ⟨Bt, hb⟩ := hb12
  obtain ⟨R, hrr⟩ := hr13
  obtain ⟨Q, hv, hq⟩ := hv14
  have hnm1 := isNm_b hnm
  have htk : tk = 1 := by omega
  have w52 : s 5 = 2 := (hK.w hO.1).2.2.1.mpr htk
  have hwr0 : Wr wd (s 8) := hK.2.2.2 (by show tk = 1; omega)
  have eNa : sr (fun i => N9 i = s 8) it = srI NM it wd := sr_ext (fun i hi => (Wr_eq (hN9 i hi) hwr0).symm)
  have hsa := sr_b (P := fun i => NM i = wd) (n := it)
  have hsa : -1 ≤ srI NM it wd ∧ (srI NM it wd < it ∨ srI NM it wd = -1) := hsa
  refine Con.of v_X10_readFact.2.2.2.2.2.1 (Nat.le_of_ble_eq_true rfl) (lv := [(0, .ref m)]) rfl (fun X k => ?_)
  generalize hQQ : QM G X nx 0 0 _ = QQ
  have fr0 : ∀ q : Nat, (q ≠ m ∧ q ≠ m + 3 ∧ q ≠ m + 9 ∧ q ≠ m + 12 ∧ q ≠ m + 13 ∧ q ≠ m + 14) → h q = h q := fun _ _ => rfl
  refine g_aload_n k rfl dX10_readFact_0 ?_
  refine g_get k 10 5 (C := RX10) (T := TX10) (N := 38) fl_X10_24 rfl wi_X10 (by decide) rfl hm rfl dX10_readFact_1 ?_
  refine g_istore_n k (lv2 := [(0, .ref m), (1, vi (s 4))]) (by decide) rfl rfl dX10_readFact_4 ?_
  refine g_aload_n k rfl dX10_readFact_5 ?_
  refine g_cVi k 10 (As := []) v_X10_named rfl rfl hm ml_X10_136 (c_X10_named hm hr hR.i h8 h9 ((hK.w hO.1).1 w52) hN9b) (by omega) (by omega) rfl (Nat.le_of_ble_eq_true rfl) rfl dX10_readFact_6 (fun r6 h6 p6 => ?_)
  obtain ⟨eh6, p6⟩ := p6
  have eh6 := eh6.symm; subst eh6
  rw [eNa] at p6
  subst p6
  refine g_istore_n k (lv2 := [(0, .ref m), (1, vi (s 4)), (2, vi (srI NM it wd))]) (by decide) rfl rfl dX10_readFact_9 ?_
  refine g_iload_n k rfl dX10_readFact_10 ?_
  refine g_iconst k dX10_readFact_11 ?_
  refine g_icmp_ne k (tgt := 21) (by omega) (by omega) dX10_readFact_12 (by decide) (fun c12 => ?_) (fun c12 => ?_)
  · skip
    obtain ⟨xa, exa⟩ : ∃ xa : Nat, srI NM it wd = xa := ⟨(srI NM it wd).toNat, by omega⟩
    rw [exa]
    refine g_aload_n k rfl dX10_readFact_21 ?_
    refine g_cVv k 10 (As := []) v_X10_next rfl rfl hm ml_X10_130 (c_X10_next hm hT (z2) hn7 hBy (hK.2.2.1 (by show tk ≠ 0; omega)) (o3) hlm (tk, pl, nt, wd).2.2.2) (by omega) (by omega) rfl (Nat.le_of_ble_eq_true rfl) rfl dX10_readFact_22 (fun h22 p22 => ?_)
    obtain ⟨⟨s1, nm1, hk1, hT1⟩, nfr1⟩ := p22
    have hm_ : h22 m = some (mo m s1) := nm1
    have hT_ : h22 (m + 1) = some (ai G 740 T) := (nfr1 _ (by omega)).trans hT
    have hr_ : h22 (m + 3) = some (ai G 86 Nr) := (nfr1 _ (by omega)).trans hr
    have h9_ : h22 (m + 9) = some (al G 8 N9) := (nfr1 _ (by omega)).trans h9
    have hb_ : h22 (m + 12) = some (ai G 72 Bt) := (nfr1 _ (by omega)).trans hb
    have hrr_ : h22 (m + 13) = some (ai G 8 R) := (nfr1 _ (by omega)).trans hrr
    have hv_ : h22 (m + 14) = some (ai G 8 Q) := (nfr1 _ (by omega)).trans hv
    have fr_ : ∀ q : Nat, (q ≠ m ∧ q ≠ m + 3 ∧ q ≠ m + 9 ∧ q ≠ m + 12 ∧ q ≠ m + 13 ∧ q ≠ m + 14) → h22 q = h q := fun q hq => (nfr1 q (by omega)).trans (fr0 q hq)
    have hT1 : TkR n (nxT T n lm (tk, pl, nt, wd)) s1 := hT1
    have ko1 : TkO n (nxT T n lm (tk, pl, nt, wd)) := stF_ok hln o3
    have u11 : (nxT T n lm (tk, pl, nt, wd)).1 ≤ 3 := ko1.1
    have u13 : (nxT T n lm (tk, pl, nt, wd)).2.2.1 ≤ n := ko1.2.2.1
    have v12 := (hT1.w u11).2.1
    have z21 : s1 2 = (n : Int) := (hk1 2 (by omega)).trans z2
    have g14 : s1 4 = ((nxT T n lm (tk, pl, nt, wd)).2.1 : Int) := hT1.2.1
    have hkr := kwF_r (s1 5) (s1 8)
    refine g_aload_n k rfl dX10_readFact_25 ?_
    refine g_cVi k 10 (As := []) v_X10_kindWord rfl rfl hm_ ml_X10_54 (c_X10_kindWord hm_ (hT1.w u11).1 v12) (by omega) (by omega) rfl (Nat.le_of_ble_eq_true rfl) rfl dX10_readFact_26 (fun r26 h26 p26 => ?_)
    obtain ⟨eh26, p26⟩ := p26
    have eh26 := eh26.symm; subst eh26
    rw [show (if s1 5 = 2 then (if s1 8 = 31484543 then 0 else if s1 8 = 31735670 then 1 else -1) else -1) = kwF (s1 5) (s1 8) from rfl] at p26
    subst p26
    refine g_istore_n k (lv2 := [(0, .ref m), (1, vi (s 4)), (2, vi (xa : Int)), (3, vi (kwF (s1 5) (s1 8)))]) (by decide) rfl rfl dX10_readFact_29 ?_
    refine g_iload_n k rfl dX10_readFact_30 ?_
    refine g_iconst k dX10_readFact_31 ?_
    refine g_icmp_ne k (tgt := 41) (by omega) (by omega) dX10_readFact_32 (by decide) (fun c32 => ?_) (fun c32 => ?_)
    · skip
      obtain ⟨hkw1, hkw2, kz, ekz, hkz, ekz2⟩ := kz_y hT1 u11 c32
      rw [ekz]
      refine g_aload_n k rfl dX10_readFact_41 ?_
      refine g_cVv k 10 (As := []) v_X10_next rfl rfl hm_ ml_X10_130 (c_X10_next hm_ hT_ (z21) hn7 hBy (hT1.2.2.1 (by omega)) (u13) hlm (nxT T n lm (tk, pl, nt, wd)).2.2.2) (by omega) (by omega) rfl (Nat.le_of_ble_eq_true rfl) rfl dX10_readFact_42 (fun h42 p42 => ?_)
      obtain ⟨⟨s2, nm2, hk2, hT2⟩, nfr2⟩ := p42
      have hm__1 : h42 m = some (mo m s2) := nm2
      have hT__1 : h42 (m + 1) = some (ai G 740 T) := (nfr2 _ (by omega)).trans hT_
      have hr__1 : h42 (m + 3) = some (ai G 86 Nr) := (nfr2 _ (by omega)).trans hr_
      have h9__1 : h42 (m + 9) = some (al G 8 N9) := (nfr2 _ (by omega)).trans h9_
      have hb__1 : h42 (m + 12) = some (ai G 72 Bt) := (nfr2 _ (by omega)).trans hb_
      have hrr__1 : h42 (m + 13) = some (ai G 8 R) := (nfr2 _ (by omega)).trans hrr_
      have hv__1 : h42 (m + 14) = some (ai G 8 Q) := (nfr2 _ (by omega)).trans hv_
      have fr__1 : ∀ q : Nat, (q ≠ m ∧ q ≠ m + 3 ∧ q ≠ m + 9 ∧ q ≠ m + 12 ∧ q ≠ m + 13 ∧ q ≠ m + 14) → h42 q = h q := fun q hq => (nfr2 q (by omega)).trans (fr_ q hq)
      have hT2 : TkR n (nxT T n lm (nxT T n lm (tk, pl, nt, wd))) s2 := hT2
      have ko2 : TkO n (nxT T n lm (nxT T n lm (tk, pl, nt, wd))) := stF_ok hln u13
      have u21 : (nxT T n lm (nxT T n lm (tk, pl, nt, wd))).1 ≤ 3 := ko2.1
      have u23 : (nxT T n lm (nxT T n lm (tk, pl, nt, wd))).2.2.1 ≤ n := ko2.2.2.1
      have v22 := (hT2.w u21).2.1
      have z22 : s2 2 = (n : Int) := (hk2 2 (by omega)).trans z21
      have g24 : s2 4 = ((nxT T n lm (nxT T n lm (tk, pl, nt, wd))).2.1 : Int) := hT2.2.1
      have hsb := sr_b (P := fun i => NM i = (nxT T n lm (nxT T n lm (tk, pl, nt, wd))).2.2.2) (n := it)
      have hsb : -1 ≤ srI NM it (nxT T n lm (nxT T n lm (tk, pl, nt, wd))).2.2.2 ∧ (srI NM it (nxT T n lm (nxT T n lm (tk, pl, nt, wd))).2.2.2 < it ∨ srI NM it (nxT T n lm (nxT T n lm (tk, pl, nt, wd))).2.2.2 = -1) := hsb
      refine g_aload_n k rfl dX10_readFact_45 ?_
      refine g_cVi k 10 (As := []) v_X10_isName rfl rfl hm__1 ml_X10_133 (c_X10_isName hm__1 (hT2.w u21).1 v22) (by omega) (by omega) rfl (Nat.le_of_ble_eq_true rfl) rfl dX10_readFact_46 (fun r46 h46 p46 => ?_)
      obtain ⟨eh46, p46⟩ := p46
      have eh46 := eh46.symm; subst eh46
      have q46 := p46
      have q46r := q46.r
      refine g_if_ne k (tgt := 58) (by omega) dX10_readFact_49 (by decide) (fun c49 => ?_) (fun c49 => ?_)
      · skip
        have hnm2 := (hT2.nm u21).mpr (q46.t (by omega))
        have hs522 : s2 5 = 2 := (q46.t (by omega)).1
        have hnm21 := isNm_b hnm2
        have hwr2 := hT2.2.2.2 (by omega)
        have eNb : sr (fun i => N9 i = s2 8) it = srI NM it (nxT T n lm (nxT T n lm (tk, pl, nt, wd))).2.2.2 := sr_ext (fun i hi => (Wr_eq (hN9 i hi) hwr2).symm)
        refine g_aload_n k rfl dX10_readFact_58 ?_
        refine g_cVi k 10 (As := []) v_X10_named rfl rfl hm__1 ml_X10_136 (c_X10_named hm__1 hr__1 hR.i h8 h9__1 ((hT2.w u21).1 hs522) hN9b) (by omega) (by omega) rfl (Nat.le_of_ble_eq_true rfl) rfl dX10_readFact_59 (fun r59 h59 p59 => ?_)
        obtain ⟨eh59, p59⟩ := p59
        have eh59 := eh59.symm; subst eh59
        rw [eNb] at p59
        subst p59
        refine g_istore k (lv2 := [(0, .ref m), (1, vi (s 4)), (2, vi (xa : Int)), (3, vi (kz : Int)), (4, vi (srI NM it (nxT T n lm (nxT T n lm (tk, pl, nt, wd))).2.2.2))]) (by decide) rfl rfl dX10_readFact_62 ?_
        refine g_iload k rfl dX10_readFact_64 ?_
        refine g_iconst k dX10_readFact_66 ?_
        refine g_icmp_eq k (tgt := 90) (by omega) (by omega) dX10_readFact_67 (by decide) (fun c67 => ?_) (fun c67 => ?_)
        · skip
          refine g_aload_n k rfl dX10_readFact_90 ?_
          refine g_iconst k dX10_readFact_91 ?_
          refine g_cVi k 10 (As := [vi 2]) v_X10_bad rfl rfl hm__1 ml_X10_127 (c_X10_bad hm__1 v22 (p := 2)) (by omega) (by omega) rfl (Nat.le_of_ble_eq_true rfl) rfl dX10_readFact_92 (fun r92 h92 p92 => ?_)
          obtain ⟨p92e, nm9, nfr9⟩ := p92
          subst p92e
          have hm__2 : h92 m = some (mo m (fu (fu s2 6 2) 7 (s2 4))) := (by rw [nm9]; rw [show (if s2 5 = 1 then (1 : Int) else 2) = 2 by rw [if_neg (by omega)]])
          have hT__2 : h92 (m + 1) = some (ai G 740 T) := (nfr9 _ (by omega)).trans hT__1
          have hr__2 : h92 (m + 3) = some (ai G 86 Nr) := (nfr9 _ (by omega)).trans hr__1
          have h9__2 : h92 (m + 9) = some (al G 8 N9) := (nfr9 _ (by omega)).trans h9__1
          have hb__2 : h92 (m + 12) = some (ai G 72 Bt) := (nfr9 _ (by omega)).trans hb__1
          have hrr__2 : h92 (m + 13) = some (ai G 8 R) := (nfr9 _ (by omega)).trans hrr__1
          have hv__2 : h92 (m + 14) = some (ai G 8 Q) := (nfr9 _ (by omega)).trans hv__1
          have fr__2 : ∀ q : Nat, (q ≠ m ∧ q ≠ m + 3 ∧ q ≠ m + 9 ∧ q ≠ m + 12 ∧ q ≠ m + 13 ∧ q ≠ m + 14) → h92 q = h q := fun q hq => (nfr9 q (by omega)).trans (fr__1 q hq)
          rw [← hQQ]
          refine g_zreti k (Or.inl rfl) rfl dX10_readFact_95 ?_
          unfold rFact
          dsimp only
          rw [if_neg (fun z => z hnm), if_neg (show ¬ srI NM it wd = -1 by omega), if_neg (fun z => z ⟨hkw1, hkw2⟩), if_neg (fun z => z hnm2), if_pos (Or.inl (by omega))]
          dsimp only
          exact ⟨bz.n (fun q => q), ⟨_, ⟨hm__2, (fun j hj => by rw [fu_n (by omega), fu_n (by omega)]; exact (fun j hj => (hk2 j (by omega)).trans ((hk1 j (by omega)).trans (hms j hj))) j hj), hT__2, ⟨_, hr__2, hR⟩, ⟨N9, h9__2, hN9⟩, ⟨_, hb__2⟩, ⟨_, hrr__2⟩, ⟨Q, hv__2, hq⟩, ⟨((hk2 _ (by omega)).trans (hk1 _ (by omega))).trans hV.1, ((hk2 _ (by omega)).trans (hk1 _ (by omega))).trans hV.2.1, ((hk2 _ (by omega)).trans (hk1 _ (by omega))).trans hV.2.2.1, ((hk2 _ (by omega)).trans (hk1 _ (by omega))).trans hV.2.2.2⟩, rfl⟩, fun q => absurd q id, fun _ => ⟨g24, by decide⟩⟩, fr__2⟩
        · skip
          obtain ⟨xb, exb⟩ : ∃ xb : Nat, srI NM it (nxT T n lm (nxT T n lm (tk, pl, nt, wd))).2.2.2 = xb := ⟨(srI NM it (nxT T n lm (nxT T n lm (tk, pl, nt, wd))).2.2.2).toNat, by omega⟩
          rw [exb]
          refine g_iload k rfl dX10_readFact_70 ?_
          refine g_iload_n k rfl dX10_readFact_72 ?_
          refine g_icmp_eq k (tgt := 90) (by omega) (by omega) dX10_readFact_73 (by decide) (fun c73 => ?_) (fun c73 => ?_)
          · skip
            refine g_aload_n k rfl dX10_readFact_90 ?_
            refine g_iconst k dX10_readFact_91 ?_
            refine g_cVi k 10 (As := [vi 2]) v_X10_bad rfl rfl hm__1 ml_X10_127 (c_X10_bad hm__1 v22 (p := 2)) (by omega) (by omega) rfl (Nat.le_of_ble_eq_true rfl) rfl dX10_readFact_92 (fun r92_1 h92_1 p92_1 => ?_)
            obtain ⟨p92_1e, nm9, nfr9⟩ := p92_1
            subst p92_1e
            have hm__3 : h92_1 m = some (mo m (fu (fu s2 6 2) 7 (s2 4))) := (by rw [nm9]; rw [show (if s2 5 = 1 then (1 : Int) else 2) = 2 by rw [if_neg (by omega)]])
            have hT__3 : h92_1 (m + 1) = some (ai G 740 T) := (nfr9 _ (by omega)).trans hT__1
            have hr__3 : h92_1 (m + 3) = some (ai G 86 Nr) := (nfr9 _ (by omega)).trans hr__1
            have h9__3 : h92_1 (m + 9) = some (al G 8 N9) := (nfr9 _ (by omega)).trans h9__1
            have hb__3 : h92_1 (m + 12) = some (ai G 72 Bt) := (nfr9 _ (by omega)).trans hb__1
            have hrr__3 : h92_1 (m + 13) = some (ai G 8 R) := (nfr9 _ (by omega)).trans hrr__1
            have hv__3 : h92_1 (m + 14) = some (ai G 8 Q) := (nfr9 _ (by omega)).trans hv__1
            have fr__3 : ∀ q : Nat, (q ≠ m ∧ q ≠ m + 3 ∧ q ≠ m + 9 ∧ q ≠ m + 12 ∧ q ≠ m + 13 ∧ q ≠ m + 14) → h92_1 q = h q := fun q hq => (nfr9 q (by omega)).trans (fr__1 q hq)
            rw [← hQQ]
            refine g_zreti k (Or.inl rfl) rfl dX10_readFact_95 ?_
            unfold rFact
            dsimp only
            rw [if_neg (fun z => z hnm), if_neg (show ¬ srI NM it wd = -1 by omega), if_neg (fun z => z ⟨hkw1, hkw2⟩), if_neg (fun z => z hnm2), if_pos (Or.inr (Or.inl (by rw [exa, exb]; omega)))]
            dsimp only
            exact ⟨bz.n (fun q => q), ⟨_, ⟨hm__3, (fun j hj => by rw [fu_n (by omega), fu_n (by omega)]; exact (fun j hj => (hk2 j (by omega)).trans ((hk1 j (by omega)).trans (hms j hj))) j hj), hT__3, ⟨_, hr__3, hR⟩, ⟨N9, h9__3, hN9⟩, ⟨_, hb__3⟩, ⟨_, hrr__3⟩, ⟨Q, hv__3, hq⟩, ⟨((hk2 _ (by omega)).trans (hk1 _ (by omega))).trans hV.1, ((hk2 _ (by omega)).trans (hk1 _ (by omega))).trans hV.2.1, ((hk2 _ (by omega)).trans (hk1 _ (by omega))).trans hV.2.2.1, ((hk2 _ (by omega)).trans (hk1 _ (by omega))).trans hV.2.2.2⟩, rfl⟩, fun q => absurd q id, fun _ => ⟨g24, by decide⟩⟩, fr__3⟩
          · skip
            refine g_aload_n k rfl dX10_readFact_76 ?_
            refine g_get k 10 11 (C := RX10) (T := TX10) (N := 38) fl_X10_77 rfl wi_X10 (by decide) rfl hm__1 rfl dX10_readFact_77 ?_
            refine g_iload_n k rfl dX10_readFact_80 ?_
            refine g_iload k rfl dX10_readFact_81 ?_
            refine g_cSi k (As := [.ref (m + 3), vi (xa : Int), vi (xb : Int)]) v_X10_factOf ml_X10_142 (c_X10_factOf hr__1 hR hS (p := (xa : Int)) (p2 := (xb : Int)) (by omega) (by omega)) (by omega) (by omega) rfl (Nat.le_of_ble_eq_true rfl) rfl dX10_readFact_83 (fun r83 h83 p83 => ?_)
            obtain ⟨eh83, p83⟩ := p83
            have eh83 := eh83.symm; subst eh83
            subst p83
            have hib := @ix_b φ (xa : Int) (xb : Int)
            refine g_iconst k dX10_readFact_86 ?_
            refine g_icmp_eq k (tgt := 96) (by omega) (by omega) dX10_readFact_87 (by decide) (fun c87 => ?_) (fun c87 => ?_)
            · skip
              have hix : ix φ (xa : Int) (xb : Int) = -1 := by omega
              have hb5 : ¬ (srI NM it (nxT T n lm (nxT T n lm (tk, pl, nt, wd))).2.2.2 = -1 ∨ srI NM it (nxT T n lm (nxT T n lm (tk, pl, nt, wd))).2.2.2 = srI NM it wd ∨ ¬ ix φ (srI NM it wd) (srI NM it (nxT T n lm (nxT T n lm (tk, pl, nt, wd))).2.2.2) = -1) := by rw [exa, exb]; omega
              refine g_aload_n k rfl dX10_readFact_96 ?_
              refine g_cVv k 10 (As := []) v_X10_next rfl rfl hm__1 ml_X10_130 (c_X10_next hm__1 hT__1 (z22) hn7 hBy (hT2.2.2.1 (by omega)) (u23) hlm (nxT T n lm (nxT T n lm (tk, pl, nt, wd))).2.2.2) (by omega) (by omega) rfl (Nat.le_of_ble_eq_true rfl) rfl dX10_readFact_97 (fun h97 p97 => ?_)
              obtain ⟨⟨s3, nm3, hk3, hT3⟩, nfr3⟩ := p97
              have hm__4 : h97 m = some (mo m s3) := nm3
              have hT__4 : h97 (m + 1) = some (ai G 740 T) := (nfr3 _ (by omega)).trans hT__1
              have hr__4 : h97 (m + 3) = some (ai G 86 Nr) := (nfr3 _ (by omega)).trans hr__1
              have h9__4 : h97 (m + 9) = some (al G 8 N9) := (nfr3 _ (by omega)).trans h9__1
              have hb__4 : h97 (m + 12) = some (ai G 72 Bt) := (nfr3 _ (by omega)).trans hb__1
              have hrr__4 : h97 (m + 13) = some (ai G 8 R) := (nfr3 _ (by omega)).trans hrr__1
              have hv__4 : h97 (m + 14) = some (ai G 8 Q) := (nfr3 _ (by omega)).trans hv__1
              have fr__4 : ∀ q : Nat, (q ≠ m ∧ q ≠ m + 3 ∧ q ≠ m + 9 ∧ q ≠ m + 12 ∧ q ≠ m + 13 ∧ q ≠ m + 14) → h97 q = h q := fun q hq => (nfr3 q (by omega)).trans (fr__1 q hq)
              have hT3 : TkR n (nxT T n lm (nxT T n lm (nxT T n lm (tk, pl, nt, wd)))) s3 := hT3
              have ko3 : TkO n (nxT T n lm (nxT T n lm (nxT T n lm (tk, pl, nt, wd)))) := stF_ok hln u23
              have u31 : (nxT T n lm (nxT T n lm (nxT T n lm (tk, pl, nt, wd)))).1 ≤ 3 := ko3.1
              have u33 : (nxT T n lm (nxT T n lm (nxT T n lm (tk, pl, nt, wd)))).2.2.1 ≤ n := ko3.2.2.1
              have v32 := (hT3.w u31).2.1
              have z23 : s3 2 = (n : Int) := (hk3 2 (by omega)).trans z22
              have g34 : s3 4 = ((nxT T n lm (nxT T n lm (nxT T n lm (tk, pl, nt, wd)))).2.1 : Int) := hT3.2.1
              refine g_aload_n k rfl dX10_readFact_100 ?_
              refine g_get k 10 6 (C := RX10) (T := TX10) (N := 38) fl_X10_27 rfl wi_X10 (by decide) rfl hm__4 rfl dX10_readFact_101 ?_
              refine g_iconst k dX10_readFact_104 ?_
              refine g_icmp_eq k (tgt := 114) (by omega) (by omega) dX10_readFact_105 (by decide) (fun c105 => ?_) (fun c105 => ?_)
              · skip
                have h3s : (nxT T n lm (nxT T n lm (nxT T n lm (tk, pl, nt, wd)))).1 = 2 := (hT3.w u31).2.2.2.1.mp (by omega)
                refine g_aload_n k rfl dX10_readFact_114 ?_
                refine g_aload_n k rfl dX10_readFact_115 ?_
                refine g_get k 10 11 (C := RX10) (T := TX10) (N := 38) fl_X10_77 rfl wi_X10 (by decide) rfl hm__4 rfl dX10_readFact_116 ?_
                refine g_iload_n k rfl dX10_readFact_119 ?_
                refine g_iload_n k rfl dX10_readFact_120 ?_
                refine g_iload k rfl dX10_readFact_121 ?_
                refine g_cVi k 10 (As := [.ref (m + 3), vi (kz : Int), vi (xa : Int), vi (xb : Int)]) v_X10_isRefuted rfl rfl hm__4 ml_X10_146 (c_X10_isRefuted hm__4 hr__4 hR hS (by omega) hb__4 hrr__4 hG (k1 := kz) (x := xa) (y := xb) hkz (by omega) (by omega) (by omega)) (by omega) (by omega) rfl (Nat.le_of_ble_eq_true rfl) rfl dX10_readFact_123 (fun r123 h123 p123 => ?_)
                obtain ⟨hz, ⟨sa4, Ba4, Ra4, nm4, nb4, nr4, hsa4, hda⟩, nfr4⟩ := p123
                have hm__5 : h123 m = some (mo m sa4) := nm4
                have hT__5 : h123 (m + 1) = some (ai G 740 T) := (nfr4 _ (by omega)).trans hT__4
                have hr__5 : h123 (m + 3) = some (ai G 86 Nr) := (nfr4 _ (by omega)).trans hr__4
                have h9__5 : h123 (m + 9) = some (al G 8 N9) := (nfr4 _ (by omega)).trans h9__4
                have hb__5 : h123 (m + 12) = some (ai G 72 Ba4) := nb4
                have hrr__5 : h123 (m + 13) = some (ai G 8 Ra4) := nr4
                have hv__5 : h123 (m + 14) = some (ai G 8 Q) := (nfr4 _ (by omega)).trans hv__4
                have fr__5 : ∀ q : Nat, (q ≠ m ∧ q ≠ m + 3 ∧ q ≠ m + 9 ∧ q ≠ m + 12 ∧ q ≠ m + 13 ∧ q ≠ m + 14) → h123 q = h q := fun q hq => (nfr4 q (by omega)).trans (fr__4 q hq)
                have hzr := hz.r
                have hrfi := rfd_iff hS (Gd_sub (w := 0) hG) hkz (show xa < it by omega) (show xb < it by omega) (show xa ≠ xb by omega)
                refine g_if_eq k (tgt := 140) (by omega) dX10_readFact_126 (by decide) (fun c126 => ?_) (fun c126 => ?_)
                · skip
                  refine g_aload_n k rfl dX10_readFact_140 ?_
                  refine g_get k 10 11 (C := RX10) (T := TX10) (N := 38) fl_X10_77 rfl wi_X10 (by decide) rfl hm__5 rfl dX10_readFact_141 ?_
                  refine g_iload_n k rfl dX10_readFact_144 ?_
                  refine g_iload_n k rfl dX10_readFact_145 ?_
                  refine g_iload k rfl dX10_readFact_146 ?_
                  refine g_cSv k (As := [.ref (m + 3), vi (kz : Int), vi (xa : Int), vi (xb : Int)]) v_X10_tells ml_X10_153 (c_X10_tells hr__5 hR hS (len28 hS (x := xa) (y := xb) (by omega) (by omega) (by omega) hix) (k1 := kz) (x := xa) (y := xb)) (by omega) (by omega) rfl (Nat.le_of_ble_eq_true rfl) rfl dX10_readFact_148 (fun h148 p148 => ?_)
                  obtain ⟨⟨N7, nn7, hR7⟩, nfr7⟩ := p148
                  have hm__6 : h148 m = some (mo m sa4) := (nfr7 _ (by omega)).trans hm__5
                  have hT__6 : h148 (m + 1) = some (ai G 740 T) := (nfr7 _ (by omega)).trans hT__5
                  have hr__6 : h148 (m + 3) = some (ai G 86 N7) := nn7
                  have h9__6 : h148 (m + 9) = some (al G 8 N9) := (nfr7 _ (by omega)).trans h9__5
                  have hb__6 : h148 (m + 12) = some (ai G 72 Ba4) := (nfr7 _ (by omega)).trans hb__5
                  have hrr__6 : h148 (m + 13) = some (ai G 8 Ra4) := (nfr7 _ (by omega)).trans hrr__5
                  have hv__6 : h148 (m + 14) = some (ai G 8 Q) := (nfr7 _ (by omega)).trans hv__5
                  have fr__6 : ∀ q : Nat, (q ≠ m ∧ q ≠ m + 3 ∧ q ≠ m + 9 ∧ q ≠ m + 12 ∧ q ≠ m + 13 ∧ q ≠ m + 14) → h148 q = h q := fun q hq => (nfr7 q (by omega)).trans (fr__5 q hq)
                  have z24 : sa4 2 = (n : Int) := (hsa4 2 (by omega)).trans z23
                  have hT4 : TkR n (nxT T n lm (nxT T n lm (nxT T n lm (tk, pl, nt, wd)))) sa4 := ⟨(hsa4 5 (by omega)).trans hT3.1, (hsa4 4 (by omega)).trans hT3.2.1, fun q => (hsa4 3 (by omega)).trans (hT3.2.2.1 q), fun q => by rw [hsa4 8 (by omega)]; exact hT3.2.2.2 q⟩
                  refine g_aload_n k rfl dX10_readFact_151 ?_
                  refine g_cVi k 10 (As := []) v_X10_readEnd rfl rfl hm__6 ml_X10_139 (c_X10_readEnd hm__6 hT__6 z24 hn7 hBy hlm hT4 ko3) (by omega) (by omega) rfl (Nat.le_of_ble_eq_true rfl) rfl dX10_readFact_152 (fun r152 h152 p152 => ?_)
                  obtain ⟨hz8, ⟨s8, nm8, hk8, hy8, hn8⟩, nfr8⟩ := p152
                  have hm__7 : h152 m = some (mo m s8) := nm8
                  have hT__7 : h152 (m + 1) = some (ai G 740 T) := (nfr8 _ (by omega)).trans hT__6
                  have hr__7 : h152 (m + 3) = some (ai G 86 N7) := (nfr8 _ (by omega)).trans hr__6
                  have h9__7 : h152 (m + 9) = some (al G 8 N9) := (nfr8 _ (by omega)).trans h9__6
                  have hb__7 : h152 (m + 12) = some (ai G 72 Ba4) := (nfr8 _ (by omega)).trans hb__6
                  have hrr__7 : h152 (m + 13) = some (ai G 8 Ra4) := (nfr8 _ (by omega)).trans hrr__6
                  have hv__7 : h152 (m + 14) = some (ai G 8 Q) := (nfr8 _ (by omega)).trans hv__6
                  have fr__7 : ∀ q : Nat, (q ≠ m ∧ q ≠ m + 3 ∧ q ≠ m + 9 ∧ q ≠ m + 12 ∧ q ≠ m + 13 ∧ q ≠ m + 14) → h152 q = h q := fun q hq => (nfr8 q (by omega)).trans (fr__6 q hq)
                  rw [← hQQ]
                  refine g_zreti k hz8.rg rfl dX10_readFact_155 ?_
                  have hnr := hz.f (by omega)
                  have hg7 : Good (φ ++ [(kz, xa, xb)]) := (Good_app hkz).mpr (Classical.byContradiction (fun q => hnr (hrfi.mpr q)))
                  have hS7 := hS.add hkz (show xa < it by omega) (show xb < it by omega) (by omega) hix
                  have eF : rFact T n lm ((tk, pl, nt, wd), it, φ, NM, ft, fp, V) = (True, ((nxT T n lm (nxT T n lm (nxT T n lm (tk, pl, nt, wd)))), it, φ ++ [(kz, xa, xb)], NM, ft, fp, V)) := by
                    unfold rFact
                    dsimp only
                    rw [if_neg (fun z => z hnm), if_neg (show ¬ srI NM it wd = -1 by omega), if_neg (fun z => z ⟨hkw1, hkw2⟩), if_neg (fun z => z hnm2), if_neg hb5, if_neg (fun z => z (show (rStop T n lm ((nxT T n lm (nxT T n lm (tk, pl, nt, wd))), it, φ, NM, ft, fp, V)).1 from h3s)), exa, exb, Int.toNat_natCast, Int.toNat_natCast, ← (show kz = _ from ekz2), if_neg hnr, rStop_y (show (rStop T n lm ((nxT T n lm (nxT T n lm (tk, pl, nt, wd))), it, φ, NM, ft, fp, V)).1 from h3s)]
                  rw [eF]
                  dsimp only
                  have h68 : s8 6 = (ft : Int) := (hy8 h3s).2.trans ((hsa4 6 (by omega)).trans ((hk3 6 (by omega)).trans ((hk2 6 (by omega)).trans ((hk1 6 (by omega)).trans z6))))
                  have h8k : ∀ j, (j = 0 ∨ j = 1 ∨ j = 2 ∨ 8 < j) → (j < 10 ∨ 13 < j) → s8 j = s j := fun j g1 g2 => (hk8 j (by omega)).trans ((hsa4 j g2).trans ((hk3 j (by omega)).trans ((hk2 j (by omega)).trans (hk1 j (by omega)))))
                  have hnt9 : nt ≤ (nxT T n lm (nxT T n lm (nxT T n lm (tk, pl, nt, wd)))).2.2.1 := Nat.le_trans (nx_mono (t := (tk, pl, nt, wd))) (Nat.le_trans (nx_mono (t := (nxT T n lm (tk, pl, nt, wd)))) nx_mono)
                  have hz9 : bz True r152 := Or.inl ⟨trivial, by rcases hz8 with q | q; exact q.2; exact absurd h3s q.1⟩
                  exact ⟨hz9, ⟨s8, ⟨hm__7, fun j hj => (h8k j (by omega) (by omega)).trans (hms j hj), hT__7, ⟨N7, hr__7, hR7⟩, ⟨N9, h9__7, hN9⟩, ⟨_, hb__7⟩, ⟨_, hrr__7⟩, ⟨Q, hv__7, hq⟩, ⟨(h8k _ (by omega) (by omega)).trans hV.1, (h8k _ (by omega) (by omega)).trans hV.2.1, (h8k _ (by omega) (by omega)).trans hV.2.2.1, (h8k _ (by omega) (by omega)).trans hV.2.2.2⟩, h68⟩, fun _ => ⟨(hy8 h3s).1, ko3, hS7, hg7, hnt9, rfl⟩, fun q => absurd trivial q⟩, fr__7⟩
                · skip
                  have hrf := hz.t (by omega)
                  have hrv := hda hrf V
                  refine g_aload_n k rfl dX10_readFact_129 ?_
                  refine g_cVv k 10 (As := []) v_X10_keepsRing rfl rfl hm__5 ml_X10_150 (c_X10_keepsRing hm__5 hrr__5 hv__5 (n := (skN φ 0 it kz xa xb).1) (by have := (hda hrf V).1; have := skV_1 (V := V) hrf; omega) (by have := (skN_hit (show xa < it by omega) (show xb < it by omega) hrf).2.1; omega)) (by omega) (by omega) rfl (Nat.le_of_ble_eq_true rfl) rfl dX10_readFact_130 (fun h130 p130 => ?_)
                  obtain ⟨⟨nm5, Q2, nv, hq2⟩, nfr5⟩ := p130
                  have hm__8 : h130 m = some (mo m (fu (fu (fu (fu sa4 14 (sa4 10)) 15 (sa4 11)) 16 (sa4 12)) 17 (sa4 13))) := nm5
                  have hT__8 : h130 (m + 1) = some (ai G 740 T) := (nfr5 _ (by omega)).trans hT__5
                  have hr__8 : h130 (m + 3) = some (ai G 86 Nr) := (nfr5 _ (by omega)).trans hr__5
                  have h9__8 : h130 (m + 9) = some (al G 8 N9) := (nfr5 _ (by omega)).trans h9__5
                  have hb__8 : h130 (m + 12) = some (ai G 72 Ba4) := (nfr5 _ (by omega)).trans hb__5
                  have hrr__8 : h130 (m + 13) = some (ai G 8 Ra4) := (nfr5 _ (by omega)).trans hrr__5
                  have hv__8 : h130 (m + 14) = some (ai G 8 Q2) := nv
                  have fr__8 : ∀ q : Nat, (q ≠ m ∧ q ≠ m + 3 ∧ q ≠ m + 9 ∧ q ≠ m + 12 ∧ q ≠ m + 13 ∧ q ≠ m + 14) → h130 q = h q := fun q hq => (nfr5 q (by omega)).trans (fr__5 q hq)
                  refine g_aload_n k rfl dX10_readFact_133 ?_
                  refine g_iconst k dX10_readFact_134 ?_
                  refine g_iload_n k rfl dX10_readFact_135 ?_
                  refine g_cVi k 10 (As := [vi 4, vi (s 4)]) v_X10_badAt rfl rfl hm__8 ml_X10_64 (c_X10_badAt hm__8 (p := 4) (p2 := s 4)) (by omega) (by omega) rfl (Nat.le_of_ble_eq_true rfl) rfl dX10_readFact_136 (fun r136 h136 p136 => ?_)
                  obtain ⟨p136e, nm6, nfr6⟩ := p136
                  subst p136e
                  have hm__9 : h136 m = some (mo m (fu (fu (fu (fu (fu (fu sa4 14 (sa4 10)) 15 (sa4 11)) 16 (sa4 12)) 17 (sa4 13)) 6 4) 7 (s 4))) := nm6
                  have hT__9 : h136 (m + 1) = some (ai G 740 T) := (nfr6 _ (by omega)).trans hT__8
                  have hr__9 : h136 (m + 3) = some (ai G 86 Nr) := (nfr6 _ (by omega)).trans hr__8
                  have h9__9 : h136 (m + 9) = some (al G 8 N9) := (nfr6 _ (by omega)).trans h9__8
                  have hb__9 : h136 (m + 12) = some (ai G 72 Ba4) := (nfr6 _ (by omega)).trans hb__8
                  have hrr__9 : h136 (m + 13) = some (ai G 8 Ra4) := (nfr6 _ (by omega)).trans hrr__8
                  have hv__9 : h136 (m + 14) = some (ai G 8 Q2) := (nfr6 _ (by omega)).trans hv__8
                  have fr__9 : ∀ q : Nat, (q ≠ m ∧ q ≠ m + 3 ∧ q ≠ m + 9 ∧ q ≠ m + 12 ∧ q ≠ m + 13 ∧ q ≠ m + 14) → h136 q = h q := fun q hq => (nfr6 q (by omega)).trans (fr__8 q hq)
                  rw [← hQQ]
                  refine g_zreti k (Or.inl rfl) rfl dX10_readFact_139 ?_
                  have eF : rFact T n lm ((tk, pl, nt, wd), it, φ, NM, ft, fp, V) = (False, ((nxT T n lm (nxT T n lm (nxT T n lm (tk, pl, nt, wd)))), it, φ, NM, 4, pl, skV φ 0 it kz xa xb V)) := by
                    unfold rFact
                    dsimp only
                    rw [if_neg (fun z => z hnm), if_neg (show ¬ srI NM it wd = -1 by omega), if_neg (fun z => z ⟨hkw1, hkw2⟩), if_neg (fun z => z hnm2), if_neg hb5, if_neg (fun z => z (show (rStop T n lm ((nxT T n lm (nxT T n lm (tk, pl, nt, wd))), it, φ, NM, ft, fp, V)).1 from h3s)), exa, exb, Int.toNat_natCast, Int.toNat_natCast, ← (show kz = _ from ekz2), if_pos hrf, rStop_y (show (rStop T n lm ((nxT T n lm (nxT T n lm (tk, pl, nt, wd))), it, φ, NM, ft, fp, V)).1 from h3s)]
                  rw [eF]
                  dsimp only
                  exact ⟨bz.n (fun q => q), ⟨_, ⟨hm__9, (fun j hj => by rw [fu_n (by omega), fu_n (by omega), fu_n (by omega), fu_n (by omega), fu_n (by omega), fu_n (by omega)]; exact (hsa4 j (by omega)).trans ((fun j hj => (hk3 j (by omega)).trans ((hk2 j (by omega)).trans ((hk1 j (by omega)).trans (hms j hj)))) j hj)), hT__9, ⟨_, hr__9, hR⟩, ⟨N9, h9__9, hN9⟩, ⟨_, hb__9⟩, ⟨_, hrr__9⟩, ⟨Q2, hv__9, fun i hi => (hq2 i (by have hi2 : (i : Int) + 1 < (skV φ 0 it kz xa xb V).1 := hi; have := skV_1 (V := V) hrf; omega)).trans (hrv.2.2.2.2 i hi)⟩, ⟨(show sa4 10 = _ by have := hrv.1; dsimp only; omega), hrv.2.1, hrv.2.2.1, hrv.2.2.2.1⟩, rfl⟩, fun q => absurd q id, fun _ => ⟨hk4, by decide⟩⟩, fr__9⟩
              · skip
                refine g_aload_n k rfl dX10_readFact_108 ?_
                refine g_iconst k dX10_readFact_109 ?_
                refine g_cVi k 10 (As := [vi 1]) v_X10_bad rfl rfl hm__4 ml_X10_127 (c_X10_bad hm__4 v32 (p := 1)) (by omega) (by omega) rfl (Nat.le_of_ble_eq_true rfl) rfl dX10_readFact_110 (fun r110 h110 p110 => ?_)
                obtain ⟨p110e, nm9, nfr9⟩ := p110
                subst p110e
                have hm__10 : h110 m = some (mo m (fu (fu s3 6 1) 7 (s3 4))) := (by rw [nm9]; rw [show (if s3 5 = 1 then (1 : Int) else 1) = 1 by split <;> rfl])
                have hT__10 : h110 (m + 1) = some (ai G 740 T) := (nfr9 _ (by omega)).trans hT__4
                have hr__10 : h110 (m + 3) = some (ai G 86 Nr) := (nfr9 _ (by omega)).trans hr__4
                have h9__10 : h110 (m + 9) = some (al G 8 N9) := (nfr9 _ (by omega)).trans h9__4
                have hb__10 : h110 (m + 12) = some (ai G 72 Bt) := (nfr9 _ (by omega)).trans hb__4
                have hrr__10 : h110 (m + 13) = some (ai G 8 R) := (nfr9 _ (by omega)).trans hrr__4
                have hv__10 : h110 (m + 14) = some (ai G 8 Q) := (nfr9 _ (by omega)).trans hv__4
                have fr__10 : ∀ q : Nat, (q ≠ m ∧ q ≠ m + 3 ∧ q ≠ m + 9 ∧ q ≠ m + 12 ∧ q ≠ m + 13 ∧ q ≠ m + 14) → h110 q = h q := fun q hq => (nfr9 q (by omega)).trans (fr__4 q hq)
                rw [← hQQ]
                refine g_zreti k (Or.inl rfl) rfl dX10_readFact_113 ?_
                have h3n : ¬ (nxT T n lm (nxT T n lm (nxT T n lm (tk, pl, nt, wd)))).1 = 2 := fun q => c105 ((hT3.w u31).2.2.2.1.mpr q)
                have eS : rStop T n lm ((nxT T n lm (nxT T n lm (tk, pl, nt, wd))), it, φ, NM, ft, fp, V) = (False, ((nxT T n lm (nxT T n lm (nxT T n lm (tk, pl, nt, wd)))), it, φ, NM, 1, (nxT T n lm (nxT T n lm (nxT T n lm (tk, pl, nt, wd)))).2.1, V)) := by unfold rStop; dsimp only; rw [if_neg h3n]; exact Prod.ext (propext ⟨fun q => absurd q h3n, False.elim⟩) rfl
                have eF : rFact T n lm ((tk, pl, nt, wd), it, φ, NM, ft, fp, V) = (False, ((nxT T n lm (nxT T n lm (nxT T n lm (tk, pl, nt, wd)))), it, φ, NM, 1, (nxT T n lm (nxT T n lm (nxT T n lm (tk, pl, nt, wd)))).2.1, V)) := by
                  unfold rFact
                  dsimp only
                  rw [if_neg (fun z => z hnm), if_neg (show ¬ srI NM it wd = -1 by omega), if_neg (fun z => z ⟨hkw1, hkw2⟩), if_neg (fun z => z hnm2), if_neg hb5, eS, if_pos (fun q => q)]
                rw [eF]
                dsimp only
                exact ⟨bz.n (fun q => q), ⟨_, ⟨hm__10, (fun j hj => by rw [fu_n (by omega), fu_n (by omega)]; exact (fun j hj => (hk3 j (by omega)).trans ((hk2 j (by omega)).trans ((hk1 j (by omega)).trans (hms j hj)))) j hj), hT__10, ⟨_, hr__10, hR⟩, ⟨N9, h9__10, hN9⟩, ⟨_, hb__10⟩, ⟨_, hrr__10⟩, ⟨Q, hv__10, hq⟩, ⟨((hk3 _ (by omega)).trans ((hk2 _ (by omega)).trans (hk1 _ (by omega)))).trans hV.1, ((hk3 _ (by omega)).trans ((hk2 _ (by omega)).trans (hk1 _ (by omega)))).trans hV.2.1, ((hk3 _ (by omega)).trans ((hk2 _ (by omega)).trans (hk1 _ (by omega)))).trans hV.2.2.1, ((hk3 _ (by omega)).trans ((hk2 _ (by omega)).trans (hk1 _ (by omega)))).trans hV.2.2.2⟩, rfl⟩, fun q => absurd q id, fun _ => ⟨g34, by decide⟩⟩, fr__10⟩
            · skip
              refine g_aload_n k rfl dX10_readFact_90 ?_
              refine g_iconst k dX10_readFact_91 ?_
              refine g_cVi k 10 (As := [vi 2]) v_X10_bad rfl rfl hm__1 ml_X10_127 (c_X10_bad hm__1 v22 (p := 2)) (by omega) (by omega) rfl (Nat.le_of_ble_eq_true rfl) rfl dX10_readFact_92 (fun r92_2 h92_2 p92_2 => ?_)
              obtain ⟨p92_2e, nm9, nfr9⟩ := p92_2
              subst p92_2e
              have hm__11 : h92_2 m = some (mo m (fu (fu s2 6 2) 7 (s2 4))) := (by rw [nm9]; rw [show (if s2 5 = 1 then (1 : Int) else 2) = 2 by rw [if_neg (by omega)]])
              have hT__11 : h92_2 (m + 1) = some (ai G 740 T) := (nfr9 _ (by omega)).trans hT__1
              have hr__11 : h92_2 (m + 3) = some (ai G 86 Nr) := (nfr9 _ (by omega)).trans hr__1
              have h9__11 : h92_2 (m + 9) = some (al G 8 N9) := (nfr9 _ (by omega)).trans h9__1
              have hb__11 : h92_2 (m + 12) = some (ai G 72 Bt) := (nfr9 _ (by omega)).trans hb__1
              have hrr__11 : h92_2 (m + 13) = some (ai G 8 R) := (nfr9 _ (by omega)).trans hrr__1
              have hv__11 : h92_2 (m + 14) = some (ai G 8 Q) := (nfr9 _ (by omega)).trans hv__1
              have fr__11 : ∀ q : Nat, (q ≠ m ∧ q ≠ m + 3 ∧ q ≠ m + 9 ∧ q ≠ m + 12 ∧ q ≠ m + 13 ∧ q ≠ m + 14) → h92_2 q = h q := fun q hq => (nfr9 q (by omega)).trans (fr__1 q hq)
              rw [← hQQ]
              refine g_zreti k (Or.inl rfl) rfl dX10_readFact_95 ?_
              unfold rFact
              dsimp only
              rw [if_neg (fun z => z hnm), if_neg (show ¬ srI NM it wd = -1 by omega), if_neg (fun z => z ⟨hkw1, hkw2⟩), if_neg (fun z => z hnm2), if_pos (Or.inr (Or.inr (by rw [exa, exb]; omega)))]
              dsimp only
              exact ⟨bz.n (fun q => q), ⟨_, ⟨hm__11, (fun j hj => by rw [fu_n (by omega), fu_n (by omega)]; exact (fun j hj => (hk2 j (by omega)).trans ((hk1 j (by omega)).trans (hms j hj))) j hj), hT__11, ⟨_, hr__11, hR⟩, ⟨N9, h9__11, hN9⟩, ⟨_, hb__11⟩, ⟨_, hrr__11⟩, ⟨Q, hv__11, hq⟩, ⟨((hk2 _ (by omega)).trans (hk1 _ (by omega))).trans hV.1, ((hk2 _ (by omega)).trans (hk1 _ (by omega))).trans hV.2.1, ((hk2 _ (by omega)).trans (hk1 _ (by omega))).trans hV.2.2.1, ((hk2 _ (by omega)).trans (hk1 _ (by omega))).trans hV.2.2.2⟩, rfl⟩, fun q => absurd q id, fun _ => ⟨g24, by decide⟩⟩, fr__11⟩
      · skip
        refine g_aload_n k rfl dX10_readFact_52 ?_
        refine g_iconst k dX10_readFact_53 ?_
        refine g_cVi k 10 (As := [vi 1]) v_X10_bad rfl rfl hm__1 ml_X10_127 (c_X10_bad hm__1 v22 (p := 1)) (by omega) (by omega) rfl (Nat.le_of_ble_eq_true rfl) rfl dX10_readFact_54 (fun r54 h54 p54 => ?_)
        obtain ⟨p54e, nm9, nfr9⟩ := p54
        subst p54e
        have hm__12 : h54 m = some (mo m (fu (fu s2 6 1) 7 (s2 4))) := (by rw [nm9]; rw [show (if s2 5 = 1 then (1 : Int) else 1) = 1 by split <;> rfl])
        have hT__12 : h54 (m + 1) = some (ai G 740 T) := (nfr9 _ (by omega)).trans hT__1
        have hr__12 : h54 (m + 3) = some (ai G 86 Nr) := (nfr9 _ (by omega)).trans hr__1
        have h9__12 : h54 (m + 9) = some (al G 8 N9) := (nfr9 _ (by omega)).trans h9__1
        have hb__12 : h54 (m + 12) = some (ai G 72 Bt) := (nfr9 _ (by omega)).trans hb__1
        have hrr__12 : h54 (m + 13) = some (ai G 8 R) := (nfr9 _ (by omega)).trans hrr__1
        have hv__12 : h54 (m + 14) = some (ai G 8 Q) := (nfr9 _ (by omega)).trans hv__1
        have fr__12 : ∀ q : Nat, (q ≠ m ∧ q ≠ m + 3 ∧ q ≠ m + 9 ∧ q ≠ m + 12 ∧ q ≠ m + 13 ∧ q ≠ m + 14) → h54 q = h q := fun q hq => (nfr9 q (by omega)).trans (fr__1 q hq)
        rw [← hQQ]
        refine g_zreti k (Or.inl rfl) rfl dX10_readFact_57 ?_
        unfold rFact
        dsimp only
        rw [if_neg (fun z => z hnm), if_neg (show ¬ srI NM it wd = -1 by omega), if_neg (fun z => z ⟨hkw1, hkw2⟩), if_pos (fun q => q46.f (by omega) ((hT2.nm u21).mp q))]
        dsimp only
        exact ⟨bz.n (fun q => q), ⟨_, ⟨hm__12, (fun j hj => by rw [fu_n (by omega), fu_n (by omega)]; exact (fun j hj => (hk2 j (by omega)).trans ((hk1 j (by omega)).trans (hms j hj))) j hj), hT__12, ⟨_, hr__12, hR⟩, ⟨N9, h9__12, hN9⟩, ⟨_, hb__12⟩, ⟨_, hrr__12⟩, ⟨Q, hv__12, hq⟩, ⟨((hk2 _ (by omega)).trans (hk1 _ (by omega))).trans hV.1, ((hk2 _ (by omega)).trans (hk1 _ (by omega))).trans hV.2.1, ((hk2 _ (by omega)).trans (hk1 _ (by omega))).trans hV.2.2.1, ((hk2 _ (by omega)).trans (hk1 _ (by omega))).trans hV.2.2.2⟩, rfl⟩, fun q => absurd q id, fun _ => ⟨g24, by decide⟩⟩, fr__12⟩
    · skip
      refine g_aload_n k rfl dX10_readFact_35 ?_
      refine g_iconst k dX10_readFact_36 ?_
      refine g_cVi k 10 (As := [vi 1]) v_X10_bad rfl rfl hm_ ml_X10_127 (c_X10_bad hm_ v12 (p := 1)) (by omega) (by omega) rfl (Nat.le_of_ble_eq_true rfl) rfl dX10_readFact_37 (fun r37 h37 p37 => ?_)
      obtain ⟨p37e, nm9, nfr9⟩ := p37
      subst p37e
      have hm__13 : h37 m = some (mo m (fu (fu s1 6 1) 7 (s1 4))) := (by rw [nm9]; rw [show (if s1 5 = 1 then (1 : Int) else 1) = 1 by split <;> rfl])
      have hT__13 : h37 (m + 1) = some (ai G 740 T) := (nfr9 _ (by omega)).trans hT_
      have hr__13 : h37 (m + 3) = some (ai G 86 Nr) := (nfr9 _ (by omega)).trans hr_
      have h9__13 : h37 (m + 9) = some (al G 8 N9) := (nfr9 _ (by omega)).trans h9_
      have hb__13 : h37 (m + 12) = some (ai G 72 Bt) := (nfr9 _ (by omega)).trans hb_
      have hrr__13 : h37 (m + 13) = some (ai G 8 R) := (nfr9 _ (by omega)).trans hrr_
      have hv__13 : h37 (m + 14) = some (ai G 8 Q) := (nfr9 _ (by omega)).trans hv_
      have fr__13 : ∀ q : Nat, (q ≠ m ∧ q ≠ m + 3 ∧ q ≠ m + 9 ∧ q ≠ m + 12 ∧ q ≠ m + 13 ∧ q ≠ m + 14) → h37 q = h q := fun q hq => (nfr9 q (by omega)).trans (fr_ q hq)
      rw [← hQQ]
      refine g_zreti k (Or.inl rfl) rfl dX10_readFact_40 ?_
      unfold rFact
      dsimp only
      rw [if_neg (fun z => z hnm), if_neg (show ¬ srI NM it wd = -1 by omega), if_pos (kz_n hT1 u11 c32)]
      dsimp only
      exact ⟨bz.n (fun q => q), ⟨_, ⟨hm__13, (fun j hj => by rw [fu_n (by omega), fu_n (by omega)]; exact (fun j hj => (hk1 j (by omega)).trans (hms j hj)) j hj), hT__13, ⟨_, hr__13, hR⟩, ⟨N9, h9__13, hN9⟩, ⟨_, hb__13⟩, ⟨_, hrr__13⟩, ⟨Q, hv__13, hq⟩, ⟨(hk1 _ (by omega)).trans hV.1, (hk1 _ (by omega)).trans hV.2.1, (hk1 _ (by omega)).trans hV.2.2.1, (hk1 _ (by omega)).trans hV.2.2.2⟩, rfl⟩, fun q => absurd q id, fun _ => ⟨g14, by decide⟩⟩, fr__13⟩
  · skip
    refine g_aload_n k rfl dX10_readFact_15 ?_
    refine g_iconst k dX10_readFact_16 ?_
    refine g_cVi k 10 (As := [vi 2]) v_X10_bad rfl rfl hm ml_X10_127 (c_X10_bad hm w2 (p := 2)) (by omega) (by omega) rfl (Nat.le_of_ble_eq_true rfl) rfl dX10_readFact_17 (fun r17 h17 p17 => ?_)
    obtain ⟨p17e, nm9, nfr9⟩ := p17
    subst p17e
    have hm__14 : h17 m = some (mo m (fu (fu s 6 2) 7 (s 4))) := (by rw [nm9]; rw [show (if s 5 = 1 then (1 : Int) else 2) = 2 by rw [if_neg (by omega)]])
    have hT__14 : h17 (m + 1) = some (ai G 740 T) := (nfr9 _ (by omega)).trans hT
    have hr__14 : h17 (m + 3) = some (ai G 86 Nr) := (nfr9 _ (by omega)).trans hr
    have h9__14 : h17 (m + 9) = some (al G 8 N9) := (nfr9 _ (by omega)).trans h9
    have hb__14 : h17 (m + 12) = some (ai G 72 Bt) := (nfr9 _ (by omega)).trans hb
    have hrr__14 : h17 (m + 13) = some (ai G 8 R) := (nfr9 _ (by omega)).trans hrr
    have hv__14 : h17 (m + 14) = some (ai G 8 Q) := (nfr9 _ (by omega)).trans hv
    have fr__14 : ∀ q : Nat, (q ≠ m ∧ q ≠ m + 3 ∧ q ≠ m + 9 ∧ q ≠ m + 12 ∧ q ≠ m + 13 ∧ q ≠ m + 14) → h17 q = h q := fun q hq => (nfr9 q (by omega)).trans (fr0 q hq)
    rw [← hQQ]
    refine g_zreti k (Or.inl rfl) rfl dX10_readFact_20 ?_
    unfold rFact
    dsimp only
    rw [if_neg (fun z => z hnm), if_pos (by omega)]
    dsimp only
    exact ⟨bz.n (fun q => q), ⟨_, ⟨hm__14, (fun j hj => by rw [fu_n (by omega), fu_n (by omega)]; exact (fun j hj => hms j hj) j hj), hT__14, ⟨_, hr__14, hR⟩, ⟨N9, h9__14, hN9⟩, ⟨_, hb__14⟩, ⟨_, hrr__14⟩, ⟨Q, hv__14, hq⟩, ⟨(rfl).trans hV.1, (rfl).trans hV.2.1, (rfl).trans hV.2.2.1, (rfl).trans hV.2.2.2⟩, rfl⟩, fun q => absurd q id, fun _ => ⟨hk4, by decide⟩⟩, fr__14⟩

