/-! the methods of SpanFacts: reads and small acts -/
set_option maxHeartbeats 600000 in
set_option maxRecDepth 100000 in
theorem c_X9_fault {G : Gx} {h : Hp} {nx x : Nat} {it : Nat} {φ : Fs} {ps : List (Nat × Fs)} {im : Nat → Option (Nat × Fs)} {V : RV} {n : Nat} {T : Nat → Int} {ft : Nat} (hS : SF G h x it φ ps im V n T ft)  : Con G yX9_fault cX9_fault 1 (some .int) 1 0 0 [.ref x] h nx (PI fun z h' => z = (ft : Int) ∧ SF G h' x it φ ps im V n T ft ∧ ∀ q : Nat, (q < x ∨ x + 140 < q) → h' q = h q) := by
  obtain ⟨⟨sd, hx⟩, cF, cM, cP, cI, cV, cK, cR, cO, cW, cS, cZ, cT, cD⟩ := id hS
  have cF : FA G h (x + 1) it φ := cF
  have cP : PA G h (x + 9) ps := cP
  have cV : GV G h (x + 53) V := cV
  have cT : TA G h (x + 133) n T := cT
  have hf := cF.ob
  have hp := cP.ob
  have hv := cV.ob
  have ht := cT.1
  obtain ⟨⟨fp, lm, pl, nt, tk, wd, NM, hRD, hfp⟩, hDr⟩ := cD
  have hr := hRD.1
  refine Con.of v_X9_fault.2.2.2.2.2.1 (Nat.le_of_ble_eq_true rfl) (lv := [(0, .ref x)]) rfl (fun X k => ?_)
  generalize hQQ : QM G X nx 0 0 _ = QQ
  have fr0 : ∀ q : Nat, (q < x ∨ x + 140 < q) → h q = h q := fun _ _ => rfl
  refine g_aload_n k rfl dX9_fault_0 ?_
  refine g_get k 9 13 (C := RX9) (T := TX9) (N := 15) fl_X9_88 rfl wi_X9 (by decide) rfl hx rfl dX9_fault_1 ?_
  refine g_get k 4 0 (C := RX4) (T := TX4) (N := 11) fl_X9_107 rfl wi_X4 (by decide) rfl hr rfl dX9_fault_4 ?_
  rw [← hQQ]
  refine g_ireti k rfl dX9_fault_7 ?_
  exact ⟨rfl, hS, fr0⟩

set_option maxHeartbeats 600000 in
set_option maxRecDepth 100000 in
theorem c_X9_end {G : Gx} {h : Hp} {nx x : Nat} {it : Nat} {φ : Fs} {ps : List (Nat × Fs)} {im : Nat → Option (Nat × Fs)} {V : RV} {n : Nat} {T : Nat → Int} {ft : Nat} (hS : SF G h x it φ ps im V n T ft) {p : Int} (rp : -2147483648 ≤ p ∧ p ≤ 2147483647) (hn7 : n ≤ 740) : Con G yX9_end cX9_end 2 (some .boolean) 1 0 0 [.ref x, vi p] h nx (PI fun z h' => bz (0 ≤ p ∧ p ≤ n) z ∧ SF G h' x it φ ps im V (if 0 ≤ p ∧ p ≤ n then p.toNat else n) T ft ∧ ∀ q : Nat, (q < x ∨ x + 140 < q) → h' q = h q) := by
  obtain ⟨⟨sd, hx⟩, cF, cM, cP, cI, cV, cK, cR, cO, cW, cS, cZ, cT, cD⟩ := id hS
  have cF : FA G h (x + 1) it φ := cF
  have cP : PA G h (x + 9) ps := cP
  have cV : GV G h (x + 53) V := cV
  have cT : TA G h (x + 133) n T := cT
  have hf := cF.ob
  have hp := cP.ob
  have hv := cV.ob
  have ht := cT.1
  refine Con.of v_X9_end.2.2.2.2.2.1 (Nat.le_of_ble_eq_true rfl) (lv := [(0, .ref x), (1, vi p)]) rfl (fun X k => ?_)
  generalize hQQ : QM G X nx 0 0 _ = QQ
  have fr0 : ∀ q : Nat, (q < x ∨ x + 140 < q) → h q = h q := fun _ _ => rfl
  refine g_iload_n k rfl dX9_end_0 ?_
  refine g_if_lt k (tgt := 15) (by omega) dX9_end_1 (by decide) (fun c1 => ?_) (fun c1 => ?_)
  · skip
    refine g_iconst k dX9_end_15 ?_
    rw [← hQQ]
    refine g_zreti k (by omega) rfl dX9_end_16 ?_
    rw [if_neg (show ¬ (0 ≤ p ∧ p ≤ (n : Int)) by omega)]
    exact ⟨bz.n (by omega), hS, fr0⟩
  · skip
    refine g_iload_n k rfl dX9_end_4 ?_
    refine g_aload_n k rfl dX9_end_5 ?_
    refine g_get k 9 12 (C := RX9) (T := TX9) (N := 15) fl_X9_79 rfl wi_X9 (by decide) rfl hx rfl dX9_end_6 ?_
    refine g_get k 7 0 (C := RX7) (T := TX7) (N := 2) fl_X9_96 rfl wi_X7 (by decide) rfl ht rfl dX9_end_9 ?_
    refine g_icmp_le k (tgt := 17) (by omega) (by omega) dX9_end_12 (by decide) (fun c12 => ?_) (fun c12 => ?_)
    · skip
      refine g_aload_n k rfl dX9_end_17 ?_
      refine g_get k 9 12 (C := RX9) (T := TX9) (N := 15) fl_X9_79 rfl wi_X9 (by decide) rfl hx rfl dX9_end_18 ?_
      refine g_iload_n k rfl dX9_end_21 ?_
      refine g_put k 7 0 (C := RX7) (T := TX7) (N := 2) fl_X9_96 rfl wi_X7 tyX7 tyX7_ok nmX7 (by decide) rfl rfl rfl rfl ht (Nat.le_of_ble_eq_true rfl) (fs2 := [vi p, .ref (x + 133 + 1)]) rfl rfl dX9_end_22 (fun h22 eh22 => ?_)
      have hx_ : h22 x = some (ob 9 [.ref (x + 1), .ref (x + 5), .ref (x + 9), .ref (x + 43), .ref (x + 52), .ref (x + 53), .ref (x + 56), .ref (x + 59), .ref (x + 61), .ref (x + 68), .ref (x + 130), .ref (x + 132), .ref (x + 133), .ref (x + 135), vi sd]) := (congrFun eh22 _).trans ((hup_n (by omega)).trans hx)
      have ht_ : h22 (x + 133) = some (ob 7 [vi p, .ref (x + 133 + 1)]) := (congrFun eh22 _).trans hup_s
      have fr_ : ∀ q : Nat, (q < x ∨ x + 140 < q) → h22 q = h q := fun q hq => (congrFun eh22 q).trans ((hup_n (by omega)).trans (fr0 q hq))
      refine g_iconst k dX9_end_25 ?_
      rw [← hQQ]
      refine g_zreti k (by omega) rfl dX9_end_26 ?_
      rw [if_pos (show 0 ≤ p ∧ p ≤ (n : Int) by omega)]
      refine ⟨bz.y (by omega), hS.sT (n' := p.toNat) (T' := T) ⟨by rw [show ((p.toNat : Nat) : Int) = p by omega]; exact ht_, (congrFun eh22 _).trans ((hup_n (by omega)).trans cT.2)⟩ (fun q g => (congrFun eh22 q).trans (hup_n (by omega))), fr_⟩
    · skip
      refine g_iconst k dX9_end_15 ?_
      rw [← hQQ]
      refine g_zreti k (by omega) rfl dX9_end_16 ?_
      rw [if_neg (show ¬ (0 ≤ p ∧ p ≤ (n : Int)) by omega)]
      exact ⟨bz.n (by omega), hS, fr0⟩

set_option maxHeartbeats 600000 in
set_option maxRecDepth 100000 in
theorem c_X9_about {G : Gx} {h : Hp} {nx x : Nat} {it : Nat} {φ : Fs} {ps : List (Nat × Fs)} {im : Nat → Option (Nat × Fs)} {V : RV} {n : Nat} {T : Nat → Int} {ft : Nat} (hS : SF G h x it φ ps im V n T ft) (hSm : Sm it φ) {p p2 : Int} (rp : -2147483648 ≤ p ∧ p ≤ 2147483647) (rp2 : -2147483648 ≤ p2 ∧ p2 ≤ 2147483647) : Con G yX9_about cX9_about 3 (some .int) 3 0 0 [.ref x, vi p, vi p2] h nx (PI fun z h' => h' = h ∧ ((hasI it p ∧ hasI it p2 ∧ p ≠ p2) → z = ix φ p p2) ∧ (¬ (hasI it p ∧ hasI it p2 ∧ p ≠ p2) → z = -1)) := by
  obtain ⟨⟨sd, hx⟩, cF, cM, cP, cI, cV, cK, cR, cO, cW, cS, cZ, cT, cD⟩ := id hS
  have cF : FA G h (x + 1) it φ := cF
  have cP : PA G h (x + 9) ps := cP
  have cV : GV G h (x + 53) V := cV
  have cT : TA G h (x + 133) n T := cT
  have hf := cF.ob
  have hp := cP.ob
  have hv := cV.ob
  have ht := cT.1
  refine Con.of v_X9_about.2.2.2.2.2.1 (Nat.le_of_ble_eq_true rfl) (lv := [(0, .ref x), (1, vi p), (2, vi p2)]) rfl (fun X k => ?_)
  generalize hQQ : QM G X nx 0 0 _ = QQ
  refine g_aload_n k rfl dX9_about_0 ?_
  refine g_get k 9 0 (C := RX9) (T := TX9) (N := 15) fl_X9_12 rfl wi_X9 (by decide) rfl hx rfl dX9_about_1 ?_
  refine g_iload_n k rfl dX9_about_4 ?_
  refine g_iload_n k rfl dX9_about_5 ?_
  refine g_cVi k 0 (As := [vi p, vi p2]) v_X0_hasPair rfl rfl hf ml_X9_153 (c_X0_hasPair cF hSm rp rp2) (by omega) (by omega) rfl (Nat.le_of_ble_eq_true rfl) rfl dX9_about_6 (fun r6 h6 p6 => ?_)
  obtain ⟨eh6, p6⟩ := p6
  have eh6 := eh6.symm; subst eh6
  have q6 := p6
  have q6r := q6.r
  refine g_if_eq k (tgt := 24) (by omega) dX9_about_9 (by decide) (fun c9 => ?_) (fun c9 => ?_)
  · skip
    refine g_iconst k dX9_about_24 ?_
    rw [← hQQ]
    refine g_ireti k rfl dX9_about_25 ?_
    exact ⟨rfl, fun q => absurd q (q6.f (by omega)), fun _ => rfl⟩
  · skip
    refine g_aload_n k rfl dX9_about_12 ?_
    refine g_get k 9 0 (C := RX9) (T := TX9) (N := 15) fl_X9_12 rfl wi_X9 (by decide) rfl hx rfl dX9_about_13 ?_
    refine g_iload_n k rfl dX9_about_16 ?_
    refine g_iload_n k rfl dX9_about_17 ?_
    refine g_cVi k 0 (As := [vi p, vi p2]) v_X0_indexOf rfl rfl hf ml_X9_157 (c_X0_indexOf cF hSm rp rp2) (by omega) (by omega) rfl (Nat.le_of_ble_eq_true rfl) rfl dX9_about_18 (fun r18 h18 p18 => ?_)
    obtain ⟨eh18, p18⟩ := p18
    have eh18 := eh18.symm; subst eh18
    subst p18
    refine g_goto k (tgt := 25) dX9_about_21 (by decide) ?_
    rw [← hQQ]
    refine g_ireti k rfl dX9_about_25 ?_
    exact ⟨rfl, fun _ => rfl, fun q => absurd (q6.t (by omega)) q⟩

def nmd (it : Nat) (φ : Fs) (kx p p2 : Int) : Prop := (kx = 0 ∨ kx = 1) ∧ (hasI it p ∧ hasI it p2 ∧ p ≠ p2) ∧ ix φ p p2 = -1
theorem ix_b {φ : Fs} {p q : Int} : -1 ≤ ix φ p q ∧ (ix φ p q < φ.length ∨ ix φ p q = -1) := sr_b
set_option maxHeartbeats 600000 in
set_option maxRecDepth 100000 in
theorem c_X9_canBeNamed {G : Gx} {h : Hp} {nx x : Nat} {it : Nat} {φ : Fs} {ps : List (Nat × Fs)} {im : Nat → Option (Nat × Fs)} {V : RV} {n : Nat} {T : Nat → Int} {ft : Nat} (hS : SF G h x it φ ps im V n T ft) (hSm : Sm it φ) {kx p p2 : Int} (rkx : -2147483648 ≤ kx ∧ kx ≤ 2147483647) (rp : -2147483648 ≤ p ∧ p ≤ 2147483647) (rp2 : -2147483648 ≤ p2 ∧ p2 ≤ 2147483647) : Con G yX9_canBeNamed cX9_canBeNamed 4 (some .boolean) 3 0 0 [.ref x, vi kx, vi p, vi p2] h nx (PI fun z h' => h' = h ∧ bz (nmd it φ kx p p2) z) := by
  obtain ⟨⟨sd, hx⟩, cF, cM, cP, cI, cV, cK, cR, cO, cW, cS, cZ, cT, cD⟩ := id hS
  have cF : FA G h (x + 1) it φ := cF
  have cP : PA G h (x + 9) ps := cP
  have cV : GV G h (x + 53) V := cV
  have cT : TA G h (x + 133) n T := cT
  have hf := cF.ob
  have hp := cP.ob
  have hv := cV.ob
  have ht := cT.1
  have h28 := hSm.2.1
  have hib := @ix_b φ p p2
  refine Con.of v_X9_canBeNamed.2.2.2.2.2.1 (Nat.le_of_ble_eq_true rfl) (lv := [(0, .ref x), (1, vi kx), (2, vi p), (3, vi p2)]) rfl (fun X k => ?_)
  generalize hQQ : QM G X nx 0 0 _ = QQ
  have K9 : ∀ (hk9 : kx = 0 ∨ kx = 1), Go G X 4 QQ 0 0 nx 9 [(0, .ref x), (1, vi kx), (2, vi p), (3, vi p2)] [] h := by
    intro hk9
    refine g_aload_n k rfl dX9_canBeNamed_9 ?_
    refine g_get k 9 0 (C := RX9) (T := TX9) (N := 15) fl_X9_12 rfl wi_X9 (by decide) rfl hx rfl dX9_canBeNamed_10 ?_
    refine g_iload_n k rfl dX9_canBeNamed_13 ?_
    refine g_iload_n k rfl dX9_canBeNamed_14 ?_
    refine g_cVi k 0 (As := [vi p, vi p2]) v_X0_hasPair rfl rfl hf ml_X9_153 (c_X0_hasPair cF hSm rp rp2) (by omega) (by omega) rfl (Nat.le_of_ble_eq_true rfl) rfl dX9_canBeNamed_15 (fun r15 h15 p15 => ?_)
    obtain ⟨eh15, p15⟩ := p15
    have eh15 := eh15.symm; subst eh15
    have q6 := p15
    have q6r := q6.r
    refine g_if_eq k (tgt := 38) (by omega) dX9_canBeNamed_18 (by decide) (fun c18 => ?_) (fun c18 => ?_)
    · skip
      refine g_iconst k dX9_canBeNamed_38 ?_
      rw [← hQQ]
      refine g_zreti k (by omega) rfl dX9_canBeNamed_39 ?_
      exact ⟨rfl, bz.n (fun q => absurd q.2.1 (q6.f (by omega)))⟩
    · skip
      refine g_aload_n k rfl dX9_canBeNamed_21 ?_
      refine g_get k 9 0 (C := RX9) (T := TX9) (N := 15) fl_X9_12 rfl wi_X9 (by decide) rfl hx rfl dX9_canBeNamed_22 ?_
      refine g_iload_n k rfl dX9_canBeNamed_25 ?_
      refine g_iload_n k rfl dX9_canBeNamed_26 ?_
      refine g_cVi k 0 (As := [vi p, vi p2]) v_X0_indexOf rfl rfl hf ml_X9_157 (c_X0_indexOf cF hSm rp rp2) (by omega) (by omega) rfl (Nat.le_of_ble_eq_true rfl) rfl dX9_canBeNamed_27 (fun r27 h27 p27 => ?_)
      obtain ⟨eh27, p27⟩ := p27
      have eh27 := eh27.symm; subst eh27
      subst p27
      refine g_iconst k dX9_canBeNamed_30 ?_
      refine g_icmp_ne k (tgt := 38) (by omega) (by omega) dX9_canBeNamed_31 (by decide) (fun c31 => ?_) (fun c31 => ?_)
      · skip
        refine g_iconst k dX9_canBeNamed_38 ?_
        rw [← hQQ]
        refine g_zreti k (by omega) rfl dX9_canBeNamed_39 ?_
        exact ⟨rfl, bz.n (fun q => by have := q.2.2; omega)⟩
      · skip
        refine g_iconst k dX9_canBeNamed_34 ?_
        refine g_goto k (tgt := 39) dX9_canBeNamed_35 (by decide) ?_
        rw [← hQQ]
        refine g_zreti k (by omega) rfl dX9_canBeNamed_39 ?_
        exact ⟨rfl, bz.y ⟨hk9, q6.t (by omega), by omega⟩⟩
  refine g_iload_n k rfl dX9_canBeNamed_0 ?_
  refine g_if_eq k (tgt := 9) (by omega) dX9_canBeNamed_1 (by decide) (fun c1 => ?_) (fun c1 => ?_)
  · skip
    exact K9 (by omega)
  · skip
    refine g_iload_n k rfl dX9_canBeNamed_4 ?_
    refine g_iconst k dX9_canBeNamed_5 ?_
    refine g_icmp_ne k (tgt := 38) (by omega) (by omega) dX9_canBeNamed_6 (by decide) (fun c6 => ?_) (fun c6 => ?_)
    · skip
      refine g_iconst k dX9_canBeNamed_38 ?_
      rw [← hQQ]
      refine g_zreti k (by omega) rfl dX9_canBeNamed_39 ?_
      exact ⟨rfl, bz.n (fun q => by have := q.1; omega)⟩
    · skip
      exact K9 (by omega)

