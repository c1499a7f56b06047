/-! layOut, begin, gap, tight, openTo, may, ways, idle, late -/
def lyO (φ : Fs) (it : Nat) (p : Int) : Prop := 1 ≤ p ∧ p ≤ 60 ∧ reS (str φ p it) it
theorem wgh_bd {φ : Fs} {w it : Nat} (h8 : it ≤ 8) : Bd 256 (wgh φ w it) := by
  have h := clM_bd (it := it) (lyF_bd (φ := φ) (w := w) (p := 1) (q := -1) (B := 1) (by omega) (by omega) (by omega) φ.length) (by omega) it h8 h8
  have hp : (2 : Int) ^ it ≤ 256 := by
    have : ∀ n : Nat, n < 9 → (2 : Int) ^ n ≤ 256 := by decide
    exact this it (by omega)
  intro j hj
  have := h j hj
  unfold wgh
  omega
set_option maxHeartbeats 600000 in
set_option maxRecDepth 100000 in
theorem c_X9_layOut {G : Gx} {h : Hp} {nx x : Nat} {it : Nat} {φ : Fs} {ps : List (Nat × Fs)} {im : Nat → Option (Nat × Fs)} {V : RV} {n : Nat} {T : Nat → Int} {ft : Nat} (hS : SF G h x it φ ps im V n T ft) (hSm : Sm it φ) {p : Int} (rp : -2147483648 ≤ p ∧ p ≤ 2147483647) : Con G yX9_layOut cX9_layOut 2 (some .boolean) 4 0 0 [.ref x, vi p] h nx (PI fun z h' => bz (lyO φ it p) z ∧ (lyO φ it p → RA G h' (x + 59) it (str φ p it)) ∧ SF G h' x it φ ps im V n T ft ∧ ∀ q : Nat, (q < x + 59 ∨ x + 60 < q) → h' q = h q) := by
  obtain ⟨⟨sd, hx⟩, cF, cM, cP, cI, cV, cK, cR, cO, cW, cS, cZ, cT, cD⟩ := id hS
  have cF : FA G h (x + 1) it φ := cF
  have cP : PA G h (x + 9) ps := cP
  have cV : GV G h (x + 53) V := cV
  have cT : TA G h (x + 133) n T := cT
  have hf := cF.ob
  have hp := cP.ob
  have hv := cV.ob
  have ht := cT.1
  obtain ⟨itR, MR, hRA⟩ := cR
  have hRA : RA G h (x + 59) itR MR := hRA
  have hr := hRA.1
  have h8 := hSm.1
  have h28 := hSm.2.1
  refine Con.of v_X9_layOut.2.2.2.2.2.1 (Nat.le_of_ble_eq_true rfl) (lv := [(0, .ref x), (1, vi p)]) rfl (fun X k => ?_)
  generalize hQQ : QM G X nx 0 0 _ = QQ
  have fr0 : ∀ q : Nat, (q < x + 59 ∨ x + 60 < q) → h q = h q := fun _ _ => rfl
  refine g_iload_n k rfl dX9_layOut_0 ?_
  refine g_iconst k dX9_layOut_1 ?_
  refine g_icmp_lt k (tgt := 30) (by omega) (by omega) dX9_layOut_2 (by decide) (fun c2 => ?_) (fun c2 => ?_)
  · skip
    refine g_iconst k dX9_layOut_30 ?_
    rw [← hQQ]
    refine g_zreti k (by omega) rfl dX9_layOut_31 ?_
    exact ⟨bz.n (fun q => by have := q.1; omega), fun q => absurd q.1 (by omega), hS, fr0⟩
  · skip
    refine g_iload_n k rfl dX9_layOut_5 ?_
    refine g_bipush k rfl dX9_layOut_6 ?_
    refine g_icmp_gt k (tgt := 30) (by omega) (by omega) dX9_layOut_8 (by decide) (fun c8 => ?_) (fun c8 => ?_)
    · skip
      refine g_iconst k dX9_layOut_30 ?_
      rw [← hQQ]
      refine g_zreti k (by omega) rfl dX9_layOut_31 ?_
      exact ⟨bz.n (fun q => by have := q.2.1; omega), fun q => absurd q.2.1 (by omega), hS, fr0⟩
    · skip
      refine g_aload_n k rfl dX9_layOut_11 ?_
      refine g_get k 9 7 (C := RX9) (T := TX9) (N := 15) fl_X9_47 rfl wi_X9 (by decide) rfl hx rfl dX9_layOut_12 ?_
      refine g_aload_n k rfl dX9_layOut_15 ?_
      refine g_get k 9 0 (C := RX9) (T := TX9) (N := 15) fl_X9_12 rfl wi_X9 (by decide) rfl hx rfl dX9_layOut_16 ?_
      refine g_iload_n k rfl dX9_layOut_19 ?_
      refine g_cVi k 3 (As := [.ref (x + 1), vi p]) v_X3_stretch rfl rfl hr ml_X9_297 (c_X3_stretch cF hSm (by omega) hRA (L1 := p) (by omega)) (by omega) (by omega) rfl (Nat.le_of_ble_eq_true rfl) rfl dX9_layOut_20 (fun r20 h20 p20 => ?_)
      obtain ⟨pz, nR, nfr⟩ := p20
      have hx_ : h20 x = some (ob 9 [.ref (x + 1), .ref (x + 5), .ref (x + 9), .ref (x + 43), .ref (x + 52), .ref (x + 53), .ref (x + 56), .ref (x + 59), .ref (x + 61), .ref (x + 68), .ref (x + 130), .ref (x + 132), .ref (x + 133), .ref (x + 135), vi sd]) := (nfr _ (by omega)).trans hx
      have hf_ : h20 (x + 1) = some (ob 0 [vi (it : Int), vi (φ.length : Int), .ref (x + 1 + 1), .ref (x + 1 + 2), .ref (x + 1 + 3)]) := (nfr _ (by omega)).trans hf
      have hr_ : h20 (x + 59) = some (ob 3 [vi (it : Int), .ref (x + 59 + 1)]) := nR.1
      have fr_ : ∀ q : Nat, (q < x + 59 ∨ x + 60 < q) → h20 q = h q := fun q hq => (nfr q (by omega)).trans (fr0 q hq)
      have pzr := pz.r
      have hS1 := hS.sR ⟨_, _, nR⟩ (fun q g => nfr q (by omega))
      refine g_if_eq k (tgt := 30) (by omega) dX9_layOut_23 (by decide) (fun c23 => ?_) (fun c23 => ?_)
      · skip
        refine g_iconst k dX9_layOut_30 ?_
        rw [← hQQ]
        refine g_zreti k (by omega) rfl dX9_layOut_31 ?_
        exact ⟨bz.n (fun q => (pz.f (by omega)) q.2.2), fun _ => nR, hS1, fr_⟩
      · skip
        refine g_iconst k dX9_layOut_26 ?_
        refine g_goto k (tgt := 31) dX9_layOut_27 (by decide) ?_
        rw [← hQQ]
        refine g_zreti k (by omega) rfl dX9_layOut_31 ?_
        exact ⟨bz.y ⟨by omega, by omega, pz.t (by omega)⟩, fun _ => nR, hS1, fr_⟩

set_option maxHeartbeats 600000 in
set_option maxRecDepth 100000 in
theorem c_X9_begin {G : Gx} {h : Hp} {nx x : Nat} {it : Nat} {φ : Fs} {ps : List (Nat × Fs)} {im : Nat → Option (Nat × Fs)} {V : RV} {n : Nat} {T : Nat → Int} {ft : Nat} (hS : SF G h x it φ ps im V n T ft) (hSm : Sm it φ) {p p2 : Int} (rp : -2147483648 ≤ p ∧ p ≤ 2147483647) (rp2 : -2147483648 ≤ p2 ∧ p2 ≤ 2147483647) : Con G yX9_begin cX9_begin 3 (some .int) 5 0 0 [.ref x, vi p, vi p2] h nx (PI fun z h' => (((hasI it p ∧ lyO φ it p2) → z = ely (str φ p2 it) p.toNat it) ∧ (¬ (hasI it p ∧ lyO φ it p2) → z = -1)) ∧ SF G h' x it φ ps im V n T ft ∧ ∀ q : Nat, (q < x ∨ x + 140 < q) → h' q = h q) := by
  obtain ⟨⟨sd, hx⟩, cF, cM, cP, cI, cV, cK, cR, cO, cW, cS, cZ, cT, cD⟩ := id hS
  have cF : FA G h (x + 1) it φ := cF
  have cP : PA G h (x + 9) ps := cP
  have cV : GV G h (x + 53) V := cV
  have cT : TA G h (x + 133) n T := cT
  have hf := cF.ob
  have hp := cP.ob
  have hv := cV.ob
  have ht := cT.1
  obtain ⟨itR, MR, hRA⟩ := cR
  have hRA : RA G h (x + 59) itR MR := hRA
  have hr := hRA.1
  have h8 := hSm.1
  have h28 := hSm.2.1
  refine Con.of v_X9_begin.2.2.2.2.2.1 (Nat.le_of_ble_eq_true rfl) (lv := [(0, .ref x), (1, vi p), (2, vi p2)]) rfl (fun X k => ?_)
  generalize hQQ : QM G X nx 0 0 _ = QQ
  have fr0 : ∀ q : Nat, (q < x ∨ x + 140 < q) → h q = h q := fun _ _ => rfl
  refine g_aload_n k rfl dX9_begin_0 ?_
  refine g_get k 9 0 (C := RX9) (T := TX9) (N := 15) fl_X9_12 rfl wi_X9 (by decide) rfl hx rfl dX9_begin_1 ?_
  refine g_iload_n k rfl dX9_begin_4 ?_
  refine g_cVi k 0 (As := [vi p]) v_X0_hasItem rfl rfl hf ml_X9_192 (c_X0_hasItem cF hSm rp) (by omega) (by omega) rfl (Nat.le_of_ble_eq_true rfl) rfl dX9_begin_5 (fun r5 h5 p5 => ?_)
  obtain ⟨eh5, p5⟩ := p5
  have eh5 := eh5.symm; subst eh5
  have q5 := p5
  have q5r := q5.r
  refine g_if_eq k (tgt := 19) (by omega) dX9_begin_8 (by decide) (fun c8 => ?_) (fun c8 => ?_)
  · skip
    refine g_iconst k dX9_begin_19 ?_
    rw [← hQQ]
    refine g_ireti k rfl dX9_begin_20 ?_
    exact ⟨⟨fun q => absurd q.1 (q5.f (by omega)), fun _ => rfl⟩, hS, fr0⟩
  · skip
    have hh := q5.t (by omega)
    obtain ⟨k1, ek1, hk1⟩ := nat_of hh
    rw [ek1]
    refine g_aload_n k rfl dX9_begin_11 ?_
    refine g_iload_n k rfl dX9_begin_12 ?_
    refine g_cVi k 9 (As := [vi p2]) v_X9_layOut rfl rfl hx ml_X9_195 (c_X9_layOut hS hSm rp2) (by omega) (by omega) rfl (Nat.le_of_ble_eq_true rfl) rfl dX9_begin_13 (fun r13 h13 p13 => ?_)
    obtain ⟨pz, nRA, hS1, nfr⟩ := p13
    have hx_ : h13 x = some (ob 9 [.ref (x + 1), .ref (x + 5), .ref (x + 9), .ref (x + 43), .ref (x + 52), .ref (x + 53), .ref (x + 56), .ref (x + 59), .ref (x + 61), .ref (x + 68), .ref (x + 130), .ref (x + 132), .ref (x + 133), .ref (x + 135), vi sd]) := (nfr _ (by omega)).trans hx
    have hf_ : h13 (x + 1) = some (ob 0 [vi (it : Int), vi (φ.length : Int), .ref (x + 1 + 1), .ref (x + 1 + 2), .ref (x + 1 + 3)]) := (nfr _ (by omega)).trans hf
    have fr_ : ∀ q : Nat, (q < x ∨ x + 140 < q) → h13 q = h q := fun q hq => (nfr q (by omega)).trans (fr0 q hq)
    have pzr := pz.r
    refine g_if_ne k (tgt := 21) (by omega) dX9_begin_16 (by decide) (fun c16 => ?_) (fun c16 => ?_)
    · skip
      have hly := pz.t (by omega)
      have nR := nRA hly
      have hr2 := nR.1
      have hbd := str_bd (φ := φ) (it := it) (L := p2) h8 ⟨hly.1, hly.2.1⟩
      have hly1 := hly.1
      have hly2 := hly.2.1
      refine g_aload_n k rfl dX9_begin_21 ?_
      refine g_get k 9 7 (C := RX9) (T := TX9) (N := 15) fl_X9_47 rfl wi_X9 (by decide) rfl hx_ rfl dX9_begin_22 ?_
      refine g_iload_n k rfl dX9_begin_25 ?_
      refine g_cVi k 3 (As := [vi (k1 : Int)]) v_X3_earliest rfl rfl hr2 ml_X9_198 (c_X3_earliest nR h8 hbd (by omega) (i1 := k1) (by omega)) (by omega) (by omega) rfl (Nat.le_of_ble_eq_true rfl) rfl dX9_begin_26 (fun r26 h26 p26 => ?_)
      obtain ⟨eh26, p26⟩ := p26
      have eh26 := eh26.symm; subst eh26
      subst p26
      rw [← hQQ]
      refine g_ireti k rfl dX9_begin_29 ?_
      refine ⟨⟨fun _ => ?_, fun q => absurd ⟨hh, hly⟩ q⟩, hS1, fr_⟩
      rw [show p.toNat = k1 by omega]
    · skip
      refine g_iconst k dX9_begin_19 ?_
      rw [← hQQ]
      refine g_ireti k rfl dX9_begin_20 ?_
      exact ⟨⟨fun q => absurd q.2 (pz.f (by omega)), fun _ => rfl⟩, hS1, fr_⟩

def gpF (M : Nat → Int) (a b : Nat) (w : Int) : Int := if (if w = 0 then M (a * 8 + b) else M (b * 8 + a)) = -1000000000 then -1000000 else if w = 0 then M (a * 8 + b) else -M (b * 8 + a)
set_option maxHeartbeats 600000 in
set_option maxRecDepth 100000 in
theorem c_X9_gap {G : Gx} {h : Hp} {nx x : Nat} {it : Nat} {φ : Fs} {ps : List (Nat × Fs)} {im : Nat → Option (Nat × Fs)} {V : RV} {n : Nat} {T : Nat → Int} {ft : Nat} (hS : SF G h x it φ ps im V n T ft) (hSm : Sm it φ) {p p2 p3 p4 : Int} (rp : -2147483648 ≤ p ∧ p ≤ 2147483647) (rp2 : -2147483648 ≤ p2 ∧ p2 ≤ 2147483647) (rp3 : -2147483648 ≤ p3 ∧ p3 ≤ 2147483647) (rp4 : -2147483648 ≤ p4 ∧ p4 ≤ 2147483647) : Con G yX9_gap cX9_gap 6 (some .int) 5 0 0 [.ref x, vi p, vi p2, vi p3, vi p4] h nx (PI fun z h' => (((hasI it p ∧ hasI it p2 ∧ (0 ≤ p4 ∧ p4 ≤ 1) ∧ lyO φ it p3) → z = gpF (str φ p3 it) p.toNat p2.toNat p4) ∧ (¬ (hasI it p ∧ hasI it p2 ∧ (0 ≤ p4 ∧ p4 ≤ 1) ∧ lyO φ it p3) → z = -1000000)) ∧ SF G h' x it φ ps im V n T ft ∧ ∀ q : Nat, (q < x ∨ x + 140 < q) → h' q = h q) := by
  obtain ⟨⟨sd, hx⟩, cF, cM, cP, cI, cV, cK, cR, cO, cW, cS, cZ, cT, cD⟩ := id hS
  have cF : FA G h (x + 1) it φ := cF
  have cP : PA G h (x + 9) ps := cP
  have cV : GV G h (x + 53) V := cV
  have cT : TA G h (x + 133) n T := cT
  have hf := cF.ob
  have hp := cP.ob
  have hv := cV.ob
  have ht := cT.1
  obtain ⟨itR, MR, hRA⟩ := cR
  have hRA : RA G h (x + 59) itR MR := hRA
  have hr := hRA.1
  have h8 := hSm.1
  have h28 := hSm.2.1
  refine Con.of v_X9_gap.2.2.2.2.2.1 (Nat.le_of_ble_eq_true rfl) (lv := [(0, .ref x), (1, vi p), (2, vi p2), (3, vi p3), (4, vi p4)]) rfl (fun X k => ?_)
  generalize hQQ : QM G X nx 0 0 _ = QQ
  have fr0 : ∀ q : Nat, (q < x ∨ x + 140 < q) → h q = h q := fun _ _ => rfl
  refine g_aload_n k rfl dX9_gap_0 ?_
  refine g_get k 9 0 (C := RX9) (T := TX9) (N := 15) fl_X9_12 rfl wi_X9 (by decide) rfl hx rfl dX9_gap_1 ?_
  refine g_iload_n k rfl dX9_gap_4 ?_
  refine g_cVi k 0 (As := [vi p]) v_X0_hasItem rfl rfl hf ml_X9_192 (c_X0_hasItem cF hSm rp) (by omega) (by omega) rfl (Nat.le_of_ble_eq_true rfl) rfl dX9_gap_5 (fun r5 h5 p5 => ?_)
  obtain ⟨eh5, p5⟩ := p5
  have eh5 := eh5.symm; subst eh5
  have q5 := p5
  have q5r := q5.r
  refine g_if_eq k (tgt := 41) (by omega) dX9_gap_8 (by decide) (fun c8 => ?_) (fun c8 => ?_)
  · skip
    refine g_ldc k (z := (-1000000)) cn_X9_202 rfl dX9_gap_41 ?_
    rw [← hQQ]
    refine g_ireti k rfl dX9_gap_43 ?_
    exact ⟨⟨fun q => absurd q.1 (q5.f (by omega)), fun _ => rfl⟩, hS, fr0⟩
  · skip
    have hh := q5.t (by omega)
    obtain ⟨k1, ek1, hk1⟩ := nat_of hh
    rw [ek1]
    refine g_aload_n k rfl dX9_gap_11 ?_
    refine g_get k 9 0 (C := RX9) (T := TX9) (N := 15) fl_X9_12 rfl wi_X9 (by decide) rfl hx rfl dX9_gap_12 ?_
    refine g_iload_n k rfl dX9_gap_15 ?_
    refine g_cVi k 0 (As := [vi p2]) v_X0_hasItem rfl rfl hf ml_X9_192 (c_X0_hasItem cF hSm rp2) (by omega) (by omega) rfl (Nat.le_of_ble_eq_true rfl) rfl dX9_gap_16 (fun r16 h16 p16 => ?_)
    obtain ⟨eh16, p16⟩ := p16
    have eh16 := eh16.symm; subst eh16
    have q16 := p16
    have q16r := q16.r
    refine g_if_eq k (tgt := 41) (by omega) dX9_gap_19 (by decide) (fun c19 => ?_) (fun c19 => ?_)
    · skip
      refine g_ldc k (z := (-1000000)) cn_X9_202 rfl dX9_gap_41 ?_
      rw [← hQQ]
      refine g_ireti k rfl dX9_gap_43 ?_
      exact ⟨⟨fun q => absurd q.2.1 (q16.f (by omega)), fun _ => rfl⟩, hS, fr0⟩
    · skip
      have hh2 := q16.t (by omega)
      obtain ⟨k2, ek2, hk2⟩ := nat_of hh2
      rw [ek2]
      refine g_iload k rfl dX9_gap_22 ?_
      refine g_if_lt k (tgt := 41) (by omega) dX9_gap_24 (by decide) (fun c24 => ?_) (fun c24 => ?_)
      · skip
        refine g_ldc k (z := (-1000000)) cn_X9_202 rfl dX9_gap_41 ?_
        rw [← hQQ]
        refine g_ireti k rfl dX9_gap_43 ?_
        exact ⟨⟨fun q => absurd q.2.2.1 (by omega), fun _ => rfl⟩, hS, fr0⟩
      · skip
        refine g_iload k rfl dX9_gap_27 ?_
        refine g_iconst k dX9_gap_29 ?_
        refine g_icmp_gt k (tgt := 41) (by omega) (by omega) dX9_gap_30 (by decide) (fun c30 => ?_) (fun c30 => ?_)
        · skip
          refine g_ldc k (z := (-1000000)) cn_X9_202 rfl dX9_gap_41 ?_
          rw [← hQQ]
          refine g_ireti k rfl dX9_gap_43 ?_
          exact ⟨⟨fun q => absurd q.2.2.1 (by omega), fun _ => rfl⟩, hS, fr0⟩
        · skip
          refine g_aload_n k rfl dX9_gap_33 ?_
          refine g_iload_n k rfl dX9_gap_34 ?_
          refine g_cVi k 9 (As := [vi p3]) v_X9_layOut rfl rfl hx ml_X9_195 (c_X9_layOut hS hSm rp3) (by omega) (by omega) rfl (Nat.le_of_ble_eq_true rfl) rfl dX9_gap_35 (fun r35 h35 p35 => ?_)
          obtain ⟨pz, nRA, hS1, nfr⟩ := p35
          have hx_ : h35 x = some (ob 9 [.ref (x + 1), .ref (x + 5), .ref (x + 9), .ref (x + 43), .ref (x + 52), .ref (x + 53), .ref (x + 56), .ref (x + 59), .ref (x + 61), .ref (x + 68), .ref (x + 130), .ref (x + 132), .ref (x + 133), .ref (x + 135), vi sd]) := (nfr _ (by omega)).trans hx
          have hf_ : h35 (x + 1) = some (ob 0 [vi (it : Int), vi (φ.length : Int), .ref (x + 1 + 1), .ref (x + 1 + 2), .ref (x + 1 + 3)]) := (nfr _ (by omega)).trans hf
          have fr_ : ∀ q : Nat, (q < x ∨ x + 140 < q) → h35 q = h q := fun q hq => (nfr q (by omega)).trans (fr0 q hq)
          have pzr := pz.r
          refine g_if_ne k (tgt := 44) (by omega) dX9_gap_38 (by decide) (fun c38 => ?_) (fun c38 => ?_)
          · skip
            have hly := pz.t (by omega)
            have nR := nRA hly
            have hr2 := nR.1
            have hbd := str_bd (φ := φ) (it := it) (L := p3) h8 ⟨hly.1, hly.2.1⟩
            have hly1 := hly.1
            have hly2 := hly.2.1
            have hb1 := hbd (k1 * 8 + k2) (by omega)
            have hb2 := hbd (k2 * 8 + k1) (by omega)
            rw [show p.toNat = k1 by omega, show p2.toNat = k2 by omega] at hQQ
            refine g_iload k rfl dX9_gap_44 ?_
            refine g_if_ne k (tgt := 61) (by omega) dX9_gap_46 (by decide) (fun c46 => ?_) (fun c46 => ?_)
            · skip
              refine g_aload_n k rfl dX9_gap_61 ?_
              refine g_get k 9 7 (C := RX9) (T := TX9) (N := 15) fl_X9_47 rfl wi_X9 (by decide) rfl hx_ rfl dX9_gap_62 ?_
              refine g_iload_n k rfl dX9_gap_65 ?_
              refine g_iload_n k rfl dX9_gap_66 ?_
              refine g_cVi k 3 (As := [vi (k2 : Int), vi (k1 : Int)]) v_X3_between rfl rfl hr2 ml_X9_203 (c_X3_between nR (u := k2) (v := k1) (by omega) (by omega)) (by omega) (by omega) rfl (Nat.le_of_ble_eq_true rfl) rfl dX9_gap_67 (fun r67 h67 p67 => ?_)
              obtain ⟨eh67, p67⟩ := p67
              have eh67 := eh67.symm; subst eh67
              subst p67
              refine g_istore k (lv2 := [(0, .ref x), (1, vi (k1 : Int)), (2, vi (k2 : Int)), (3, vi p3), (4, vi p4), (5, vi (str φ p3 it (k2 * 8 + k1)))]) (by decide) rfl rfl dX9_gap_70 ?_
              refine g_iload k rfl dX9_gap_72 ?_
              refine g_ldc k (z := (-1000000000)) cn_X9_206 rfl dX9_gap_74 ?_
              refine g_icmp_ne k (tgt := 82) (by omega) (by omega) dX9_gap_76 (by decide) (fun c76 => ?_) (fun c76 => ?_)
              · skip
                refine g_iload k rfl dX9_gap_82 ?_
                refine g_if_ne k (tgt := 92) (by omega) dX9_gap_84 (by decide) (fun c84 => ?_) (fun c84 => ?_)
                · skip
                  refine g_iload k rfl dX9_gap_92 ?_
                  refine g_ineg k dX9_gap_94 ?_
                  rw [← hQQ]
                  refine g_ireti k rfl dX9_gap_95 ?_
                  refine ⟨⟨fun _ => ?_, fun q => absurd ⟨hh, hh2, by omega, hly⟩ q⟩, hS1, fr_⟩
                  unfold gpF
                  first | (exfalso; omega) | (rw [if_pos (by omega)]; done) | (rw [if_neg (by rw [if_pos (by omega)]; omega), if_pos (by omega)]; done) | (rw [if_neg (by rw [if_neg (by omega)]; omega), if_neg (by omega)]; done) | (rw [if_pos (by rw [if_pos (by omega)]; omega)]; done) | (rw [if_pos (by rw [if_neg (by omega)]; omega)]; done)
                · skip
                  refine g_iload k rfl dX9_gap_87 ?_
                  refine g_goto k (tgt := 95) dX9_gap_89 (by decide) ?_
                  rw [← hQQ]
                  refine g_ireti k rfl dX9_gap_95 ?_
                  refine ⟨⟨fun _ => ?_, fun q => absurd ⟨hh, hh2, by omega, hly⟩ q⟩, hS1, fr_⟩
                  unfold gpF
                  first | (exfalso; omega) | (rw [if_pos (by omega)]; done) | (rw [if_neg (by rw [if_pos (by omega)]; omega), if_pos (by omega)]; done) | (rw [if_neg (by rw [if_neg (by omega)]; omega), if_neg (by omega)]; done) | (rw [if_pos (by rw [if_pos (by omega)]; omega)]; done) | (rw [if_pos (by rw [if_neg (by omega)]; omega)]; done)
              · skip
                refine g_ldc k (z := (-1000000)) cn_X9_202 rfl dX9_gap_79 ?_
                rw [← hQQ]
                refine g_ireti k rfl dX9_gap_81 ?_
                refine ⟨⟨fun _ => ?_, fun q => absurd ⟨hh, hh2, by omega, hly⟩ q⟩, hS1, fr_⟩
                unfold gpF
                first | (exfalso; omega) | (rw [if_pos (by omega)]; done) | (rw [if_neg (by rw [if_pos (by omega)]; omega), if_pos (by omega)]; done) | (rw [if_neg (by rw [if_neg (by omega)]; omega), if_neg (by omega)]; done) | (rw [if_pos (by rw [if_pos (by omega)]; omega)]; done) | (rw [if_pos (by rw [if_neg (by omega)]; omega)]; done)
            · skip
              refine g_aload_n k rfl dX9_gap_49 ?_
              refine g_get k 9 7 (C := RX9) (T := TX9) (N := 15) fl_X9_47 rfl wi_X9 (by decide) rfl hx_ rfl dX9_gap_50 ?_
              refine g_iload_n k rfl dX9_gap_53 ?_
              refine g_iload_n k rfl dX9_gap_54 ?_
              refine g_cVi k 3 (As := [vi (k1 : Int), vi (k2 : Int)]) v_X3_between rfl rfl hr2 ml_X9_203 (c_X3_between nR (u := k1) (v := k2) (by omega) (by omega)) (by omega) (by omega) rfl (Nat.le_of_ble_eq_true rfl) rfl dX9_gap_55 (fun r55 h55 p55 => ?_)
              obtain ⟨eh55, p55⟩ := p55
              have eh55 := eh55.symm; subst eh55
              subst p55
              refine g_goto k (tgt := 70) dX9_gap_58 (by decide) ?_
              refine g_istore k (lv2 := [(0, .ref x), (1, vi (k1 : Int)), (2, vi (k2 : Int)), (3, vi p3), (4, vi p4), (5, vi (str φ p3 it (k1 * 8 + k2)))]) (by decide) rfl rfl dX9_gap_70 ?_
              refine g_iload k rfl dX9_gap_72 ?_
              refine g_ldc k (z := (-1000000000)) cn_X9_206 rfl dX9_gap_74 ?_
              refine g_icmp_ne k (tgt := 82) (by omega) (by omega) dX9_gap_76 (by decide) (fun c76_1 => ?_) (fun c76_1 => ?_)
              · skip
                refine g_iload k rfl dX9_gap_82 ?_
                refine g_if_ne k (tgt := 92) (by omega) dX9_gap_84 (by decide) (fun c84_1 => ?_) (fun c84_1 => ?_)
                · skip
                  refine g_iload k rfl dX9_gap_92 ?_
                  refine g_ineg k dX9_gap_94 ?_
                  rw [← hQQ]
                  refine g_ireti k rfl dX9_gap_95 ?_
                  refine ⟨⟨fun _ => ?_, fun q => absurd ⟨hh, hh2, by omega, hly⟩ q⟩, hS1, fr_⟩
                  unfold gpF
                  first | (exfalso; omega) | (rw [if_pos (by omega)]; done) | (rw [if_neg (by rw [if_pos (by omega)]; omega), if_pos (by omega)]; done) | (rw [if_neg (by rw [if_neg (by omega)]; omega), if_neg (by omega)]; done) | (rw [if_pos (by rw [if_pos (by omega)]; omega)]; done) | (rw [if_pos (by rw [if_neg (by omega)]; omega)]; done)
                · skip
                  refine g_iload k rfl dX9_gap_87 ?_
                  refine g_goto k (tgt := 95) dX9_gap_89 (by decide) ?_
                  rw [← hQQ]
                  refine g_ireti k rfl dX9_gap_95 ?_
                  refine ⟨⟨fun _ => ?_, fun q => absurd ⟨hh, hh2, by omega, hly⟩ q⟩, hS1, fr_⟩
                  unfold gpF
                  first | (exfalso; omega) | (rw [if_pos (by omega)]; done) | (rw [if_neg (by rw [if_pos (by omega)]; omega), if_pos (by omega)]; done) | (rw [if_neg (by rw [if_neg (by omega)]; omega), if_neg (by omega)]; done) | (rw [if_pos (by rw [if_pos (by omega)]; omega)]; done) | (rw [if_pos (by rw [if_neg (by omega)]; omega)]; done)
              · skip
                refine g_ldc k (z := (-1000000)) cn_X9_202 rfl dX9_gap_79 ?_
                rw [← hQQ]
                refine g_ireti k rfl dX9_gap_81 ?_
                refine ⟨⟨fun _ => ?_, fun q => absurd ⟨hh, hh2, by omega, hly⟩ q⟩, hS1, fr_⟩
                unfold gpF
                first | (exfalso; omega) | (rw [if_pos (by omega)]; done) | (rw [if_neg (by rw [if_pos (by omega)]; omega), if_pos (by omega)]; done) | (rw [if_neg (by rw [if_neg (by omega)]; omega), if_neg (by omega)]; done) | (rw [if_pos (by rw [if_pos (by omega)]; omega)]; done) | (rw [if_pos (by rw [if_neg (by omega)]; omega)]; done)
          · skip
            refine g_ldc k (z := (-1000000)) cn_X9_202 rfl dX9_gap_41 ?_
            rw [← hQQ]
            refine g_ireti k rfl dX9_gap_43 ?_
            exact ⟨⟨fun q => absurd q.2.2.2 (pz.f (by omega)), fun _ => rfl⟩, hS1, fr_⟩

noncomputable def bF (P : Nat → Prop) : Nat → Nat
  | 0 => 0
  | n + 1 => haveI := Classical.propDecidable (P n); if P n then bF P n ||| 2 ^ n else bF P n
theorem bF_lt (P : Nat → Prop) : ∀ n : Nat, bF P n < 2 ^ n
  | 0 => Nat.one_pos
  | n + 1 => by
    have h := bF_lt P n
    have h2 : (2 : Nat) ^ n < 2 ^ (n + 1) := Nat.pow_lt_pow_right (by decide) (by omega)
    unfold bF
    split
    · exact Nat.or_lt_two_pow (Nat.lt_trans h h2) h2
    · exact Nat.lt_trans h h2
theorem bF_y {P : Nat → Prop} {n : Nat} (h : P n) : bF P (n + 1) = bF P n ||| 2 ^ n := by rw [bF, if_pos h]
theorem bF_n {P : Nat → Prop} {n : Nat} (h : ¬ P n) : bF P (n + 1) = bF P n := by rw [bF, if_neg h]
theorem bF_ext {P Q : Nat → Prop} : ∀ n, (∀ j, j < n → (P j ↔ Q j)) → bF P n = bF Q n
  | 0, _ => rfl
  | n + 1, h => by
    have ih := bF_ext n (fun j hj => h j (by omega))
    by_cases c : P n
    · rw [bF_y c, bF_y ((h n (by omega)).mp c), ih]
    · rw [bF_n c, bF_n (fun q => c ((h n (by omega)).mpr q)), ih]
def iab (z : Int) : Int := if 0 ≤ z then z else -z
theorem iab_is (z : Int) : (0 ≤ z ∧ iab z = z) ∨ (z < 0 ∧ iab z = -z) := by unfold iab; split <;> omega
def tgD (φ : Fs) (M : Nat → Int) (it k : Nat) : Int := ely M (se φ k) it - ely M (fi φ k) it
def tgP (φ : Fs) (M : Nat → Int) (it : Nat) (Ln : Int) (k : Nat) : Prop := (kd φ k = 0 ∧ tgD φ M it k = Ln) ∨ (kd φ k ≠ 0 ∧ (tgD φ M it k = Ln - 1 ∨ tgD φ M it k = 1 - Ln))
set_option maxHeartbeats 600000 in
set_option maxRecDepth 100000 in
theorem c_X9_tight {G : Gx} {h : Hp} {nx x : Nat} {it : Nat} {φ : Fs} {ps : List (Nat × Fs)} {im : Nat → Option (Nat × Fs)} {V : RV} {n : Nat} {T : Nat → Int} {ft : Nat} (hS : SF G h x it φ ps im V n T ft) (hSm : Sm it φ) {p : Int} (rp : -2147483648 ≤ p ∧ p ≤ 2147483647) : Con G yX9_tight cX9_tight 6 (some .int) 5 0 0 [.ref x, vi p] h nx (PI fun z h' => ((lyO φ it p → z = (bF (tgP φ (str φ p it) it p) φ.length : Nat)) ∧ (¬ lyO φ it p → z = -1)) ∧ SF G h' x it φ ps im V n T ft ∧ ∀ q : Nat, (q < x ∨ x + 140 < q) → h' q = h q) := by
  obtain ⟨⟨sd, hx⟩, cF, cM, cP, cI, cV, cK, cR, cO, cW, cS, cZ, cT, cD⟩ := id hS
  have cF : FA G h (x + 1) it φ := cF
  have cP : PA G h (x + 9) ps := cP
  have cV : GV G h (x + 53) V := cV
  have cT : TA G h (x + 133) n T := cT
  have hf := cF.ob
  have hp := cP.ob
  have hv := cV.ob
  have ht := cT.1
  obtain ⟨itR, MR, hRA⟩ := cR
  have hRA : RA G h (x + 59) itR MR := hRA
  have hr := hRA.1
  have h8 := hSm.1
  have h28 := hSm.2.1
  obtain ⟨K, F, Z, -, hk, hfi, hse, hrr⟩ := id cF
  refine Con.of v_X9_tight.2.2.2.2.2.1 (Nat.le_of_ble_eq_true rfl) (lv := [(0, .ref x), (1, vi p)]) rfl (fun X k => ?_)
  generalize hQQ : QM G X nx 0 0 _ = QQ
  have fr0 : ∀ q : Nat, (q < x ∨ x + 140 < q) → h q = h q := fun _ _ => rfl
  refine g_aload_n k rfl dX9_tight_0 ?_
  refine g_iload_n k rfl dX9_tight_1 ?_
  refine g_cVi k 9 (As := [vi p]) v_X9_layOut rfl rfl hx ml_X9_195 (c_X9_layOut hS hSm rp) (by omega) (by omega) rfl (Nat.le_of_ble_eq_true rfl) rfl dX9_tight_2 (fun r2 h2 p2 => ?_)
  obtain ⟨pz, nRA, hS1, nfr⟩ := p2
  have hx_ : h2 x = some (ob 9 [.ref (x + 1), .ref (x + 5), .ref (x + 9), .ref (x + 43), .ref (x + 52), .ref (x + 53), .ref (x + 56), .ref (x + 59), .ref (x + 61), .ref (x + 68), .ref (x + 130), .ref (x + 132), .ref (x + 133), .ref (x + 135), vi sd]) := (nfr _ (by omega)).trans hx
  have hf_ : h2 (x + 1) = some (ob 0 [vi (it : Int), vi (φ.length : Int), .ref (x + 1 + 1), .ref (x + 1 + 2), .ref (x + 1 + 3)]) := (nfr _ (by omega)).trans hf
  have hk_ : h2 (x + 1 + 1) = some (ai G 28 K) := (nfr _ (by omega)).trans hk
  have hfi_ : h2 (x + 1 + 2) = some (ai G 28 F) := (nfr _ (by omega)).trans hfi
  have hse_ : h2 (x + 1 + 3) = some (ai G 28 Z) := (nfr _ (by omega)).trans hse
  have fr_ : ∀ q : Nat, (q < x ∨ x + 140 < q) → h2 q = h q := fun q hq => (nfr q (by omega)).trans (fr0 q hq)
  have pzr := pz.r
  refine g_if_ne k (tgt := 10) (by omega) dX9_tight_5 (by decide) (fun c5 => ?_) (fun c5 => ?_)
  · skip
    have hly := pz.t (by omega)
    have nR := nRA hly
    have hr2 := nR.1
    have hbd := str_bd (φ := φ) (it := it) (L := p) h8 ⟨hly.1, hly.2.1⟩
    have hly1 := hly.1
    have hly2 := hly.2.1
    refine g_iconst k dX9_tight_10 ?_
    refine g_istore_n k (lv2 := [(0, .ref x), (1, vi p), (2, vi 0)]) (by decide) rfl rfl dX9_tight_11 ?_
    refine g_iconst k dX9_tight_12 ?_
    refine g_istore_n k (lv2 := [(0, .ref x), (1, vi p), (2, vi 0), (3, vi 0)]) (by decide) rfl rfl dX9_tight_13 ?_
    have K14 : ∀ (nz : Nat) (v : Nat) (hv : v ≤ φ.length) (hmz : φ.length - v < nz), Go G X 6 QQ 0 0 nx 14 [(0, .ref x), (1, vi p), (2, vi (bF (tgP φ (str φ p it) it p) v : Int)), (3, vi (v : Int))] [] h2 := by
      intro nz
      induction nz with
      | zero => intro v hv hmz; exact absurd hmz (Nat.not_lt_zero _)
      | succ nz ih14 =>
        intro v hv hmz
        refine g_iload_n k rfl dX9_tight_14 ?_
        refine g_aload_n k rfl dX9_tight_15 ?_
        refine g_get k 9 0 (C := RX9) (T := TX9) (N := 15) fl_X9_12 rfl wi_X9 (by decide) rfl hx_ rfl dX9_tight_16 ?_
        refine g_get k 0 1 (C := RX0) (T := TX0) (N := 5) fl_X9_123 rfl wi_X0 (by decide) rfl hf_ rfl dX9_tight_19 ?_
        refine g_icmp_ge k (tgt := 121) (by omega) (by omega) dX9_tight_22 (by decide) (fun c22 => ?_) (fun c22 => ?_)
        · skip
          refine g_iload_n k rfl dX9_tight_121 ?_
          rw [← hQQ]
          refine g_ireti k rfl dX9_tight_122 ?_
          have e : v = φ.length := by omega
          subst e
          exact ⟨⟨fun _ => rfl, fun q => absurd hly q⟩, hS1, fr_⟩
        · skip
          have hb := hSm.2.2 v (by omega)
          have he1 := ely_bd (i := se φ v) hbd (by omega) (by omega) it h8
          have he2 := ely_bd (i := fi φ v) hbd (by omega) (by omega) it h8
          have hdd : tgD φ (str φ p it) it v = ely (str φ p it) (se φ v) it - ely (str φ p it) (fi φ v) it := rfl
          have hp := pow31 (n := v) (by omega)
          have hq := bF_lt (tgP φ (str φ p it) it p) v
          refine g_aload_n k rfl dX9_tight_25 ?_
          refine g_get k 9 7 (C := RX9) (T := TX9) (N := 15) fl_X9_47 rfl wi_X9 (by decide) rfl hx_ rfl dX9_tight_26 ?_
          refine g_aload_n k rfl dX9_tight_29 ?_
          refine g_get k 9 0 (C := RX9) (T := TX9) (N := 15) fl_X9_12 rfl wi_X9 (by decide) rfl hx_ rfl dX9_tight_30 ?_
          refine g_get k 0 4 (C := RX0) (T := TX0) (N := 5) fl_X9_150 rfl wi_X0 (by decide) rfl hf_ rfl dX9_tight_33 ?_
          refine g_iload_n k rfl dX9_tight_36 ?_
          refine g_iald k v hse_ (by omega) (by omega) (by decide) dX9_tight_37 ?_
          rw [show Z v = (se φ v : Int) from (hrr v (by omega)).2.2]
          refine g_cVi k 3 (As := [vi (se φ v : Int)]) v_X3_earliest rfl rfl hr2 ml_X9_198 (c_X3_earliest nR h8 hbd (by omega) (i1 := se φ v) (by omega)) (by omega) (by omega) rfl (Nat.le_of_ble_eq_true rfl) rfl dX9_tight_38 (fun r38 h38 p38 => ?_)
          obtain ⟨eh38, p38⟩ := p38
          have eh38 := eh38.symm; subst eh38
          subst p38
          refine g_aload_n k rfl dX9_tight_41 ?_
          refine g_get k 9 7 (C := RX9) (T := TX9) (N := 15) fl_X9_47 rfl wi_X9 (by decide) rfl hx_ rfl dX9_tight_42 ?_
          refine g_aload_n k rfl dX9_tight_45 ?_
          refine g_get k 9 0 (C := RX9) (T := TX9) (N := 15) fl_X9_12 rfl wi_X9 (by decide) rfl hx_ rfl dX9_tight_46 ?_
          refine g_get k 0 3 (C := RX0) (T := TX0) (N := 5) fl_X9_147 rfl wi_X0 (by decide) rfl hf_ rfl dX9_tight_49 ?_
          refine g_iload_n k rfl dX9_tight_52 ?_
          refine g_iald k v hfi_ (by omega) (by omega) (by decide) dX9_tight_53 ?_
          rw [show F v = (fi φ v : Int) from (hrr v (by omega)).2.1]
          refine g_cVi k 3 (As := [vi (fi φ v : Int)]) v_X3_earliest rfl rfl hr2 ml_X9_198 (c_X3_earliest nR h8 hbd (by omega) (i1 := fi φ v) (by omega)) (by omega) (by omega) rfl (Nat.le_of_ble_eq_true rfl) rfl dX9_tight_54 (fun r54 h54 p54 => ?_)
          obtain ⟨eh54, p54⟩ := p54
          have eh54 := eh54.symm; subst eh54
          subst p54
          refine g_isub k dX9_tight_57 ?_
          rw [show (ely (str φ p it) (se φ v) it) - (ely (str φ p it) (fi φ v) it) = tgD φ (str φ p it) it v from rfl]
          refine g_istore k (lv2 := [(0, .ref x), (1, vi p), (2, vi (bF (tgP φ (str φ p it) it p) v : Int)), (3, vi (v : Int)), (4, vi (tgD φ (str φ p it) it v))]) (by decide) rfl rfl dX9_tight_58 ?_
          have K102 : ∀ (zs : Int) (hsp : bz (¬ tgP φ (str φ p it) it p v) zs), Go G X 6 QQ 0 0 nx 102 [(0, .ref x), (1, vi p), (2, vi (bF (tgP φ (str φ p it) it p) v : Int)), (3, vi (v : Int)), (4, vi (tgD φ (str φ p it) it v))] [vi zs] h2 := by
            intro zs hsp
            have hspr := hsp.r
            refine g_istore k (lv2 := [(0, .ref x), (1, vi p), (2, vi (bF (tgP φ (str φ p it) it p) v : Int)), (3, vi (v : Int)), (4, vi (tgD φ (str φ p it) it v)), (5, vi zs)]) (by decide) rfl rfl dX9_tight_102 ?_
            refine g_iload k rfl dX9_tight_104 ?_
            refine g_if_ne k (tgt := 115) (by omega) dX9_tight_106 (by decide) (fun c106 => ?_) (fun c106 => ?_)
            · skip
              refine g_iinc k (lv2 := [(0, .ref x), (1, vi p), (2, vi (bF (tgP φ (str φ p it) it p) v : Int)), (3, vi ((v : Int) + 1)), (4, vi (tgD φ (str φ p it) it v)), (5, vi zs)]) rfl (by decide) rfl rfl dX9_tight_115 ?_
              refine g_goto k (tgt := 14) dX9_tight_118 (by decide) ?_
              refine g_less (lv2 := [(0, .ref x), (1, vi p), (2, vi (bF (tgP φ (str φ p it) it p) v : Int)), (3, vi ((v : Int) + 1))]) ⟨rfl, rfl, rfl, rfl, trivial⟩ ?_
              rw [show bF (tgP φ (str φ p it) it p) v = bF (tgP φ (str φ p it) it p) (v + 1) from (bF_n (hsp.t (by omega))).symm]
              exact ih14 (v + 1) (by omega) (by omega)
            · skip
              refine g_iload_n k rfl dX9_tight_109 ?_
              refine g_iconst k dX9_tight_110 ?_
              refine g_iload_n k rfl dX9_tight_111 ?_
              refine g_ishl k (by omega) dX9_tight_112 ?_
              rw [show 1 * 2 ^ ((v : Int)).toNat = ((2 ^ v : Nat) : Int) from (by rw [Int.toNat_natCast]; simp)]
              refine g_ior k (a := bF (tgP φ (str φ p it) it p) v) (b := 2 ^ v) (by omega) (by omega) dX9_tight_113 ?_
              refine g_istore_n k (lv2 := [(0, .ref x), (1, vi p), (2, vi ((bF (tgP φ (str φ p it) it p) v ||| 2 ^ v : Nat) : Int)), (3, vi (v : Int)), (4, vi (tgD φ (str φ p it) it v)), (5, vi zs)]) (by decide) rfl rfl dX9_tight_114 ?_
              refine g_iinc k (lv2 := [(0, .ref x), (1, vi p), (2, vi ((bF (tgP φ (str φ p it) it p) v ||| 2 ^ v : Nat) : Int)), (3, vi ((v : Int) + 1)), (4, vi (tgD φ (str φ p it) it v)), (5, vi zs)]) rfl (by decide) rfl rfl dX9_tight_115 ?_
              refine g_goto k (tgt := 14) dX9_tight_118 (by decide) ?_
              refine g_less (lv2 := [(0, .ref x), (1, vi p), (2, vi ((bF (tgP φ (str φ p it) it p) v ||| 2 ^ v : Nat) : Int)), (3, vi ((v : Int) + 1))]) ⟨rfl, rfl, rfl, rfl, trivial⟩ ?_
              rw [show bF (tgP φ (str φ p it) it p) v ||| 2 ^ v = bF (tgP φ (str φ p it) it p) (v + 1) from (bF_y (Classical.not_not.mp (hsp.f (by omega)))).symm]
              exact ih14 (v + 1) (by omega) (by omega)
          refine g_aload_n k rfl dX9_tight_60 ?_
          refine g_get k 9 0 (C := RX9) (T := TX9) (N := 15) fl_X9_12 rfl wi_X9 (by decide) rfl hx_ rfl dX9_tight_61 ?_
          refine g_get k 0 2 (C := RX0) (T := TX0) (N := 5) fl_X9_144 rfl wi_X0 (by decide) rfl hf_ rfl dX9_tight_64 ?_
          refine g_iload_n k rfl dX9_tight_67 ?_
          refine g_iald k v hk_ (by omega) (by omega) (by decide) dX9_tight_68 ?_
          rw [show K v = (kd φ v : Int) from (hrr v (by omega)).1]
          refine g_if_ne k (tgt := 86) (by omega) dX9_tight_69 (by decide) (fun c69 => ?_) (fun c69 => ?_)
          · skip
            refine g_iload k rfl dX9_tight_86 ?_
            refine g_abs k (by omega) ml_X9_207 st_abs cd_abs (by omega) (by omega) (Nat.le_of_ble_eq_true rfl) dX9_tight_88 ?_
            rw [show (if 0 ≤ (tgD φ (str φ p it) it v) then (tgD φ (str φ p it) it v) else -(tgD φ (str φ p it) it v)) = iab (tgD φ (str φ p it) it v) from rfl]
            have hia := iab_is (tgD φ (str φ p it) it v)
            refine g_iload_n k rfl dX9_tight_91 ?_
            refine g_iconst k dX9_tight_92 ?_
            refine g_isub k dX9_tight_93 ?_
            refine g_icmp_eq k (tgt := 101) (by omega) (by omega) dX9_tight_94 (by decide) (fun c94 => ?_) (fun c94 => ?_)
            · skip
              refine g_iconst k dX9_tight_101 ?_
              exact K102 _ (bz.n (by unfold tgP; omega))
            · skip
              refine g_iconst k dX9_tight_97 ?_
              refine g_goto k (tgt := 102) dX9_tight_98 (by decide) ?_
              exact K102 _ (bz.y (by unfold tgP; omega))
          · skip
            refine g_iload k rfl dX9_tight_72 ?_
            refine g_iload_n k rfl dX9_tight_74 ?_
            refine g_icmp_eq k (tgt := 82) (by omega) (by omega) dX9_tight_75 (by decide) (fun c75 => ?_) (fun c75 => ?_)
            · skip
              refine g_iconst k dX9_tight_82 ?_
              refine g_goto k (tgt := 102) dX9_tight_83 (by decide) ?_
              exact K102 _ (bz.n (by unfold tgP; omega))
            · skip
              refine g_iconst k dX9_tight_78 ?_
              refine g_goto k (tgt := 102) dX9_tight_79 (by decide) ?_
              exact K102 _ (bz.y (by unfold tgP; omega))
    exact K14 _ 0 (Nat.zero_le _) (Nat.lt_succ_self _)
  · skip
    refine g_iconst k dX9_tight_8 ?_
    rw [← hQQ]
    refine g_ireti k rfl dX9_tight_9 ?_
    exact ⟨⟨fun q => absurd q (pz.f (by omega)), fun _ => rfl⟩, hS1, fr_⟩

noncomputable def opW (φ : Fs) (x y : Nat) : Nat := if ix φ x y = -1 then 0 else 2 ^ (ix φ x y).toNat
noncomputable def opn (φ : Fs) (it x y : Nat) : Nat := opt (wgh φ (opW φ x y) it) x y
theorem pw28 {n : Nat} (h : n < 28) : 2 ^ n < 268435456 := by
  have : 2 ^ n < 2 ^ 28 := Nat.pow_lt_pow_right (by decide) h
  omega
set_option maxHeartbeats 600000 in
set_option maxRecDepth 100000 in
theorem c_X9_openTo {G : Gx} {h : Hp} {nx x : Nat} {it : Nat} {φ : Fs} {ps : List (Nat × Fs)} {im : Nat → Option (Nat × Fs)} {V : RV} {n : Nat} {T : Nat → Int} {ft : Nat} (hS : SF G h x it φ ps im V n T ft) (hSm : Sm it φ) {k1 k2 : Nat} (hk1 : k1 < it) (hk2 : k2 < it) : Con G yX9_openTo cX9_openTo 4 (some .int) 4 0 0 [.ref x, vi (k1 : Int), vi (k2 : Int)] h nx (PI fun z h' => z = (opn φ it k1 k2 : Nat) ∧ SF G h' x it φ ps im V n T ft ∧ ∀ q : Nat, (q < x + 59 ∨ x + 60 < q) → h' q = h q) := by
  obtain ⟨⟨sd, hx⟩, cF, cM, cP, cI, cV, cK, cR, cO, cW, cS, cZ, cT, cD⟩ := id hS
  have cF : FA G h (x + 1) it φ := cF
  have cP : PA G h (x + 9) ps := cP
  have cV : GV G h (x + 53) V := cV
  have cT : TA G h (x + 133) n T := cT
  have hf := cF.ob
  have hp := cP.ob
  have hv := cV.ob
  have ht := cT.1
  obtain ⟨itR, MR, hRA⟩ := cR
  have hRA : RA G h (x + 59) itR MR := hRA
  have hr := hRA.1
  have h8 := hSm.1
  have h28 := hSm.2.1
  have hib := @ix_b φ (k1 : Int) (k2 : Int)
  refine Con.of v_X9_openTo.2.2.2.2.2.1 (Nat.le_of_ble_eq_true rfl) (lv := [(0, .ref x), (1, vi (k1 : Int)), (2, vi (k2 : Int))]) rfl (fun X k => ?_)
  generalize hQQ : QM G X nx 0 0 _ = QQ
  have fr0 : ∀ q : Nat, (q < x + 59 ∨ x + 60 < q) → h q = h q := fun _ _ => rfl
  refine g_aload_n k rfl dX9_openTo_0 ?_
  refine g_get k 9 0 (C := RX9) (T := TX9) (N := 15) fl_X9_12 rfl wi_X9 (by decide) rfl hx rfl dX9_openTo_1 ?_
  refine g_iload_n k rfl dX9_openTo_4 ?_
  refine g_iload_n k rfl dX9_openTo_5 ?_
  refine g_cVi k 0 (As := [vi (k1 : Int), vi (k2 : Int)]) v_X0_indexOf rfl rfl hf ml_X9_157 (c_X0_indexOf cF hSm (p := (k1 : Int)) (q := (k2 : Int)) (by omega) (by omega)) (by omega) (by omega) rfl (Nat.le_of_ble_eq_true rfl) rfl dX9_openTo_6 (fun r6 h6 p6 => ?_)
  obtain ⟨eh6, p6⟩ := p6
  have eh6 := eh6.symm; subst eh6
  subst p6
  refine g_istore_n k (lv2 := [(0, .ref x), (1, vi (k1 : Int)), (2, vi (k2 : Int)), (3, vi (ix φ (k1 : Int) (k2 : Int)))]) (by decide) rfl rfl dX9_openTo_9 ?_
  have K30 : ∀ (wz : Nat) (hwz : wz = opW φ k1 k2), Go G X 4 QQ 0 0 nx 30 [(0, .ref x), (1, vi (k1 : Int)), (2, vi (k2 : Int)), (3, vi (ix φ (k1 : Int) (k2 : Int)))] [vi (wz : Int), .ref (x + 1), .ref (x + 59)] h := by
    intro wz hwz
    have how : wz < 268435456 := by
      rw [hwz]
      unfold opW
      split
      · omega
      · exact pw28 (by omega)
    refine g_cVv k 3 (As := [.ref (x + 1), vi (wz : Int)]) v_X3_weigh rfl rfl hr ml_X9_266 (c_X3_weigh cF hSm (by omega) hRA (w := wz) how) (by omega) (by omega) rfl (Nat.le_of_ble_eq_true rfl) rfl dX9_openTo_30 (fun h30 p30 => ?_)
    obtain ⟨nR, nfr⟩ := p30
    have hx_ : h30 x = some (ob 9 [.ref (x + 1), .ref (x + 5), .ref (x + 9), .ref (x + 43), .ref (x + 52), .ref (x + 53), .ref (x + 56), .ref (x + 59), .ref (x + 61), .ref (x + 68), .ref (x + 130), .ref (x + 132), .ref (x + 133), .ref (x + 135), vi sd]) := (nfr _ (by omega)).trans hx
    have hf_ : h30 (x + 1) = some (ob 0 [vi (it : Int), vi (φ.length : Int), .ref (x + 1 + 1), .ref (x + 1 + 2), .ref (x + 1 + 3)]) := (nfr _ (by omega)).trans hf
    have hr_ : h30 (x + 59) = some (ob 3 [vi (it : Int), .ref (x + 59 + 1)]) := nR.1
    have fr_ : ∀ q : Nat, (q < x + 59 ∨ x + 60 < q) → h30 q = h q := fun q hq => (nfr q (by omega)).trans (fr0 q hq)
    subst hwz
    have hS1 := hS.sR ⟨_, _, nR⟩ (fun q g => nfr q (by omega))
    refine g_aload_n k rfl dX9_openTo_33 ?_
    refine g_get k 9 7 (C := RX9) (T := TX9) (N := 15) fl_X9_47 rfl wi_X9 (by decide) rfl hx_ rfl dX9_openTo_34 ?_
    refine g_iload_n k rfl dX9_openTo_37 ?_
    refine g_iload_n k rfl dX9_openTo_38 ?_
    refine g_cVi k 3 (As := [vi (k1 : Int), vi (k2 : Int)]) v_X3_options rfl rfl hr_ ml_X9_301 (c_X3_options nR (wgh_bd h8) (by omega) (x := k1) (y := k2) (by omega) (by omega)) (by omega) (by omega) rfl (Nat.le_of_ble_eq_true rfl) rfl dX9_openTo_39 (fun r39 h39 p39 => ?_)
    obtain ⟨eh39, p39⟩ := p39
    have eh39 := eh39.symm; subst eh39
    subst p39
    rw [← hQQ]
    refine g_ireti k rfl dX9_openTo_42 ?_
    exact ⟨rfl, hS1, fr_⟩
  refine g_aload_n k rfl dX9_openTo_10 ?_
  refine g_get k 9 7 (C := RX9) (T := TX9) (N := 15) fl_X9_47 rfl wi_X9 (by decide) rfl hx rfl dX9_openTo_11 ?_
  refine g_aload_n k rfl dX9_openTo_14 ?_
  refine g_get k 9 0 (C := RX9) (T := TX9) (N := 15) fl_X9_12 rfl wi_X9 (by decide) rfl hx rfl dX9_openTo_15 ?_
  refine g_iload_n k rfl dX9_openTo_18 ?_
  refine g_iconst k dX9_openTo_19 ?_
  refine g_icmp_ne k (tgt := 27) (by omega) (by omega) dX9_openTo_20 (by decide) (fun c20 => ?_) (fun c20 => ?_)
  · skip
    refine g_iconst k dX9_openTo_27 ?_
    refine g_iload_n k rfl dX9_openTo_28 ?_
    refine g_ishl k (by omega) dX9_openTo_29 ?_
    rw [show 1 * 2 ^ (ix φ (k1 : Int) (k2 : Int)).toNat = ((2 ^ (ix φ (k1 : Int) (k2 : Int)).toNat : Nat) : Int) from (by rw [Int.natCast_pow, Int.one_mul]; rfl)]
    exact K30 (2 ^ (ix φ (k1 : Int) (k2 : Int)).toNat) (by unfold opW; rw [if_neg (by omega)])
  · skip
    refine g_iconst k dX9_openTo_23 ?_
    refine g_goto k (tgt := 30) dX9_openTo_24 (by decide) ?_
    exact K30 0 (by unfold opW; rw [if_pos (by omega)])

set_option maxHeartbeats 600000 in
set_option maxRecDepth 100000 in
theorem c_X9_may {G : Gx} {h : Hp} {nx x : Nat} {it : Nat} {φ : Fs} {ps : List (Nat × Fs)} {im : Nat → Option (Nat × Fs)} {V : RV} {n : Nat} {T : Nat → Int} {ft : Nat} (hS : SF G h x it φ ps im V n T ft) (hSm : Sm it φ) {p p2 : Int} (rp : -2147483648 ≤ p ∧ p ≤ 2147483647) (rp2 : -2147483648 ≤ p2 ∧ p2 ≤ 2147483647) : Con G yX9_may cX9_may 3 (some .int) 5 0 0 [.ref x, vi p, vi p2] h nx (PI fun z h' => (((hasI it p ∧ hasI it p2 ∧ p ≠ p2) → z = (opn φ it p.toNat p2.toNat : Nat)) ∧ (¬ (hasI it p ∧ hasI it p2 ∧ p ≠ p2) → z = -1)) ∧ SF G h' x it φ ps im V n T ft ∧ ∀ q : Nat, (q < x ∨ x + 140 < q) → h' q = h q) := by
  obtain ⟨⟨sd, hx⟩, cF, cM, cP, cI, cV, cK, cR, cO, cW, cS, cZ, cT, cD⟩ := id hS
  have cF : FA G h (x + 1) it φ := cF
  have cP : PA G h (x + 9) ps := cP
  have cV : GV G h (x + 53) V := cV
  have cT : TA G h (x + 133) n T := cT
  have hf := cF.ob
  have hp := cP.ob
  have hv := cV.ob
  have ht := cT.1
  refine Con.of v_X9_may.2.2.2.2.2.1 (Nat.le_of_ble_eq_true rfl) (lv := [(0, .ref x), (1, vi p), (2, vi p2)]) rfl (fun X k => ?_)
  generalize hQQ : QM G X nx 0 0 _ = QQ
  have fr0 : ∀ q : Nat, (q < x ∨ x + 140 < q) → h q = h q := fun _ _ => rfl
  refine g_aload_n k rfl dX9_may_0 ?_
  refine g_get k 9 0 (C := RX9) (T := TX9) (N := 15) fl_X9_12 rfl wi_X9 (by decide) rfl hx rfl dX9_may_1 ?_
  refine g_iload_n k rfl dX9_may_4 ?_
  refine g_iload_n k rfl dX9_may_5 ?_
  refine g_cVi k 0 (As := [vi p, vi p2]) v_X0_hasPair rfl rfl hf ml_X9_153 (c_X0_hasPair cF hSm rp rp2) (by omega) (by omega) rfl (Nat.le_of_ble_eq_true rfl) rfl dX9_may_6 (fun r6 h6 p6 => ?_)
  obtain ⟨eh6, p6⟩ := p6
  have eh6 := eh6.symm; subst eh6
  have q6 := p6
  have q6r := q6.r
  refine g_if_eq k (tgt := 21) (by omega) dX9_may_9 (by decide) (fun c9 => ?_) (fun c9 => ?_)
  · skip
    refine g_iconst k dX9_may_21 ?_
    rw [← hQQ]
    refine g_ireti k rfl dX9_may_22 ?_
    exact ⟨⟨fun q => absurd q (q6.f (by omega)), fun _ => rfl⟩, hS, fr0⟩
  · skip
    have hh := q6.t (by omega)
    obtain ⟨k1, ek1, hk1⟩ := nat_of hh.1
    obtain ⟨k2, ek2, hk2⟩ := nat_of hh.2.1
    rw [ek1, ek2]
    rw [show p.toNat = k1 by omega, show p2.toNat = k2 by omega] at hQQ
    refine g_aload_n k rfl dX9_may_12 ?_
    refine g_iload_n k rfl dX9_may_13 ?_
    refine g_iload_n k rfl dX9_may_14 ?_
    refine g_cVi k 9 (As := [vi (k1 : Int), vi (k2 : Int)]) v_X9_openTo rfl rfl hx ml_X9_212 (c_X9_openTo hS hSm (k1 := k1) (k2 := k2) hk1 hk2) (by omega) (by omega) rfl (Nat.le_of_ble_eq_true rfl) rfl dX9_may_15 (fun r15 h15 p15 => ?_)
    obtain ⟨p15e, hS1, nfr⟩ := p15
    subst p15e
    have hx_ : h15 x = some (ob 9 [.ref (x + 1), .ref (x + 5), .ref (x + 9), .ref (x + 43), .ref (x + 52), .ref (x + 53), .ref (x + 56), .ref (x + 59), .ref (x + 61), .ref (x + 68), .ref (x + 130), .ref (x + 132), .ref (x + 133), .ref (x + 135), vi sd]) := (nfr _ (by omega)).trans hx
    have hf_ : h15 (x + 1) = some (ob 0 [vi (it : Int), vi (φ.length : Int), .ref (x + 1 + 1), .ref (x + 1 + 2), .ref (x + 1 + 3)]) := (nfr _ (by omega)).trans hf
    have fr_ : ∀ q : Nat, (q < x ∨ x + 140 < q) → h15 q = h q := fun q hq => (nfr q (by omega)).trans (fr0 q hq)
    refine g_goto k (tgt := 22) dX9_may_18 (by decide) ?_
    rw [← hQQ]
    refine g_ireti k rfl dX9_may_22 ?_
    exact ⟨⟨fun _ => rfl, fun q => absurd hh q⟩, hS1, fr_⟩

set_option maxHeartbeats 600000 in
set_option maxRecDepth 100000 in
theorem c_X9_ways {G : Gx} {h : Hp} {nx x : Nat} {it : Nat} {φ : Fs} {ps : List (Nat × Fs)} {im : Nat → Option (Nat × Fs)} {V : RV} {n : Nat} {T : Nat → Int} {ft : Nat} (hS : SF G h x it φ ps im V n T ft) (hSm : Sm it φ) {GM : (Nat → Int) → Prop} (hG : GMo it (prs φ it it).length (pF φ it) (pS φ it) GM) (hGW : GM (wgh φ 0 it)) : Con G yX9_ways cX9_ways 1 (some .int) 64 0 0 [.ref x] h nx (PI fun z h' => z = ((if wysF φ it ≤ 999 then wysF φ it else 999 : Nat) : Int) ∧ SF G h' x it φ ps im V n T ft ∧ ∀ q : Nat, (q < x ∨ x + 140 < q) → h' q = h q) := by
  obtain ⟨⟨sd, hx⟩, cF, cM, cP, cI, cV, cK, cR, cO, cW, cS, cZ, cT, cD⟩ := id hS
  have cF : FA G h (x + 1) it φ := cF
  have cP : PA G h (x + 9) ps := cP
  have cV : GV G h (x + 53) V := cV
  have cT : TA G h (x + 133) n T := cT
  have hf := cF.ob
  have hp := cP.ob
  have hv := cV.ob
  have ht := cT.1
  have cW : WA G h (x + 68) := cW
  obtain ⟨⟨np, F, S, hW0⟩, hLy⟩ := id cW
  have hw := hW0.1
  refine Con.of v_X9_ways.2.2.2.2.2.1 (Nat.le_of_ble_eq_true rfl) (lv := [(0, .ref x)]) rfl (fun X k => ?_)
  generalize hQQ : QM G X nx 0 0 _ = QQ
  have fr0 : ∀ q : Nat, (q < x ∨ x + 140 < q) → h q = h q := fun _ _ => rfl
  refine g_aload_n k rfl dX9_ways_0 ?_
  refine g_get k 9 9 (C := RX9) (T := TX9) (N := 15) fl_X9_61 rfl wi_X9 (by decide) rfl hx rfl dX9_ways_1 ?_
  refine g_aload_n k rfl dX9_ways_4 ?_
  refine g_get k 9 0 (C := RX9) (T := TX9) (N := 15) fl_X9_12 rfl wi_X9 (by decide) rfl hx rfl dX9_ways_5 ?_
  refine g_cVi k 8 (As := [.ref (x + 1)]) v_X8_count rfl rfl hw ml_X9_215 (c_X8_count cW cF hSm (by omega) hG hGW) (by omega) (by omega) rfl (Nat.le_of_ble_eq_true rfl) rfl dX9_ways_8 (fun r8 h8 p8 => ?_)
  obtain ⟨p8e, nW, nfr⟩ := p8
  subst p8e
  have hx_ : h8 x = some (ob 9 [.ref (x + 1), .ref (x + 5), .ref (x + 9), .ref (x + 43), .ref (x + 52), .ref (x + 53), .ref (x + 56), .ref (x + 59), .ref (x + 61), .ref (x + 68), .ref (x + 130), .ref (x + 132), .ref (x + 133), .ref (x + 135), vi sd]) := (nfr _ (by omega)).trans hx
  have hf_ : h8 (x + 1) = some (ob 0 [vi (it : Int), vi (φ.length : Int), .ref (x + 1 + 1), .ref (x + 1 + 2), .ref (x + 1 + 3)]) := (nfr _ (by omega)).trans hf
  have fr_ : ∀ q : Nat, (q < x ∨ x + 140 < q) → h8 q = h q := fun q hq => (nfr q (by omega)).trans (fr0 q hq)
  rw [← hQQ]
  refine g_ireti k rfl dX9_ways_11 ?_
  exact ⟨rfl, hS.sW nW (fun q g => nfr q (by omega)), fr_⟩

set_option maxHeartbeats 600000 in
set_option maxRecDepth 100000 in
theorem c_X9_idle {G : Gx} {h : Hp} {nx x : Nat} {it : Nat} {φ : Fs} {ps : List (Nat × Fs)} {im : Nat → Option (Nat × Fs)} {V : RV} {n : Nat} {T : Nat → Int} {ft : Nat} (hS : SF G h x it φ ps im V n T ft) (hSm : Sm it φ) : Con G yX9_idle cX9_idle 3 (some .int) 5 0 0 [.ref x] h nx (PI fun z h' => z = (bF (fun k => pc8 (opn φ it (fi φ k) (se φ k)) = 1) φ.length : Nat) ∧ SF G h' x it φ ps im V n T ft ∧ ∀ q : Nat, (q < x ∨ x + 140 < q) → h' q = h q) := by
  obtain ⟨⟨sd, hx⟩, cF, cM, cP, cI, cV, cK, cR, cO, cW, cS, cZ, cT, cD⟩ := id hS
  have cF : FA G h (x + 1) it φ := cF
  have cP : PA G h (x + 9) ps := cP
  have cV : GV G h (x + 53) V := cV
  have cT : TA G h (x + 133) n T := cT
  have hf := cF.ob
  have hp := cP.ob
  have hv := cV.ob
  have ht := cT.1
  obtain ⟨K, F, Z, -, hk, hfi, hse, hrr⟩ := id cF
  have h28 := hSm.2.1
  have h8 := hSm.1
  refine Con.of v_X9_idle.2.2.2.2.2.1 (Nat.le_of_ble_eq_true rfl) (lv := [(0, .ref x)]) rfl (fun X k => ?_)
  generalize hQQ : QM G X nx 0 0 _ = QQ
  have fr0 : ∀ q : Nat, (q < x ∨ x + 140 < q) → h q = h q := fun _ _ => rfl
  refine g_iconst k dX9_idle_0 ?_
  refine g_istore_n k (lv2 := [(0, .ref x), (1, vi 0)]) (by decide) rfl rfl dX9_idle_1 ?_
  refine g_iconst k dX9_idle_2 ?_
  refine g_istore_n k (lv2 := [(0, .ref x), (1, vi 0), (2, vi 0)]) (by decide) rfl rfl dX9_idle_3 ?_
  have K4 : ∀ (nz : Nat) (v : Nat) (h4 : Hp) (hx_ : h4 x = some (ob 9 [.ref (x + 1), .ref (x + 5), .ref (x + 9), .ref (x + 43), .ref (x + 52), .ref (x + 53), .ref (x + 56), .ref (x + 59), .ref (x + 61), .ref (x + 68), .ref (x + 130), .ref (x + 132), .ref (x + 133), .ref (x + 135), vi sd])) (hf_ : h4 (x + 1) = some (ob 0 [vi (it : Int), vi (φ.length : Int), .ref (x + 1 + 1), .ref (x + 1 + 2), .ref (x + 1 + 3)])) (hk_ : h4 (x + 1 + 1) = some (ai G 28 K)) (hfi_ : h4 (x + 1 + 2) = some (ai G 28 F)) (hse_ : h4 (x + 1 + 3) = some (ai G 28 Z)) (fr_ : ∀ q : Nat, (q < x ∨ x + 140 < q) → h4 q = h q) (hv : v ≤ φ.length) (hS2 : SF G h4 x it φ ps im V n T ft) (hmz : φ.length - v < nz), Go G X 3 QQ 0 0 nx 4 [(0, .ref x), (1, vi (bF (fun k => pc8 (opn φ it (fi φ k) (se φ k)) = 1) v : Int)), (2, vi (v : Int))] [] h4 := by
    intro nz
    induction nz with
    | zero => intro v h4 hx_ hf_ hk_ hfi_ hse_ fr_ hv hS2 hmz; exact absurd hmz (Nat.not_lt_zero _)
    | succ nz ih4 =>
      intro v h4 hx_ hf_ hk_ hfi_ hse_ fr_ hv hS2 hmz
      refine g_iload_n k rfl dX9_idle_4 ?_
      refine g_aload_n k rfl dX9_idle_5 ?_
      refine g_get k 9 0 (C := RX9) (T := TX9) (N := 15) fl_X9_12 rfl wi_X9 (by decide) rfl hx_ rfl dX9_idle_6 ?_
      refine g_get k 0 1 (C := RX0) (T := TX0) (N := 5) fl_X9_123 rfl wi_X0 (by decide) rfl hf_ rfl dX9_idle_9 ?_
      refine g_icmp_ge k (tgt := 56) (by omega) (by omega) dX9_idle_12 (by decide) (fun c12 => ?_) (fun c12 => ?_)
      · skip
        refine g_iload_n k rfl dX9_idle_56 ?_
        rw [← hQQ]
        refine g_ireti k rfl dX9_idle_57 ?_
        have e : v = φ.length := by omega
        subst e
        exact ⟨rfl, hS2, fr_⟩
      · skip
        have hb := hSm.2.2 v (by omega)
        have hp := pow31 (n := v) (by omega)
        have hq := bF_lt (fun k => pc8 (opn φ it (fi φ k) (se φ k)) = 1) v
        have hol : opn φ it (fi φ v) (se φ v) ≤ 7 := opt_le _ _ _
        have hpl := pc8_le (opn φ it (fi φ v) (se φ v))
        refine g_aload_n k rfl dX9_idle_15 ?_
        refine g_aload_n k rfl dX9_idle_16 ?_
        refine g_get k 9 0 (C := RX9) (T := TX9) (N := 15) fl_X9_12 rfl wi_X9 (by decide) rfl hx_ rfl dX9_idle_17 ?_
        refine g_get k 0 3 (C := RX0) (T := TX0) (N := 5) fl_X9_147 rfl wi_X0 (by decide) rfl hf_ rfl dX9_idle_20 ?_
        refine g_iload_n k rfl dX9_idle_23 ?_
        refine g_iald k v hfi_ (by omega) (by omega) (by decide) dX9_idle_24 ?_
        rw [show F v = (fi φ v : Int) from (hrr v (by omega)).2.1]
        refine g_aload_n k rfl dX9_idle_25 ?_
        refine g_get k 9 0 (C := RX9) (T := TX9) (N := 15) fl_X9_12 rfl wi_X9 (by decide) rfl hx_ rfl dX9_idle_26 ?_
        refine g_get k 0 4 (C := RX0) (T := TX0) (N := 5) fl_X9_150 rfl wi_X0 (by decide) rfl hf_ rfl dX9_idle_29 ?_
        refine g_iload_n k rfl dX9_idle_32 ?_
        refine g_iald k v hse_ (by omega) (by omega) (by decide) dX9_idle_33 ?_
        rw [show Z v = (se φ v : Int) from (hrr v (by omega)).2.2]
        refine g_cVi k 9 (As := [vi (fi φ v : Int), vi (se φ v : Int)]) v_X9_openTo rfl rfl hx_ ml_X9_212 (c_X9_openTo hS2 hSm (k1 := fi φ v) (k2 := se φ v) (by omega) (by omega)) (by omega) (by omega) rfl (Nat.le_of_ble_eq_true rfl) rfl dX9_idle_34 (fun r34 h34 p34 => ?_)
        obtain ⟨p34e, hS3, nfr⟩ := p34
        subst p34e
        have hx__1 : h34 x = some (ob 9 [.ref (x + 1), .ref (x + 5), .ref (x + 9), .ref (x + 43), .ref (x + 52), .ref (x + 53), .ref (x + 56), .ref (x + 59), .ref (x + 61), .ref (x + 68), .ref (x + 130), .ref (x + 132), .ref (x + 133), .ref (x + 135), vi sd]) := (nfr _ (by omega)).trans hx_
        have hf__1 : h34 (x + 1) = some (ob 0 [vi (it : Int), vi (φ.length : Int), .ref (x + 1 + 1), .ref (x + 1 + 2), .ref (x + 1 + 3)]) := (nfr _ (by omega)).trans hf_
        have hk__1 : h34 (x + 1 + 1) = some (ai G 28 K) := (nfr _ (by omega)).trans hk_
        have hfi__1 : h34 (x + 1 + 2) = some (ai G 28 F) := (nfr _ (by omega)).trans hfi_
        have hse__1 : h34 (x + 1 + 3) = some (ai G 28 Z) := (nfr _ (by omega)).trans hse_
        have fr__1 : ∀ q : Nat, (q < x ∨ x + 140 < q) → h34 q = h q := fun q hq => (nfr q (by omega)).trans (fr_ q hq)
        refine g_cSi k (As := [vi (opn φ it (fi φ v) (se φ v) : Int)]) v_J6_bitCount_0f7a4 ml_X9_222 (c_J6_bitCount (n := opn φ it (fi φ v) (se φ v)) (by omega)) (by omega) (by omega) rfl (Nat.le_of_ble_eq_true rfl) rfl dX9_idle_37 (fun r37 h37 p37 => ?_)
        obtain ⟨eh37, p37⟩ := p37
        have eh37 := eh37.symm; subst eh37
        subst p37
        refine g_iconst k dX9_idle_40 ?_
        refine g_icmp_ne k (tgt := 50) (by omega) (by omega) dX9_idle_41 (by decide) (fun c41 => ?_) (fun c41 => ?_)
        · skip
          refine g_iinc k (lv2 := [(0, .ref x), (1, vi (bF (fun k => pc8 (opn φ it (fi φ k) (se φ k)) = 1) v : Int)), (2, vi ((v : Int) + 1))]) rfl (by decide) rfl rfl dX9_idle_50 ?_
          refine g_goto k (tgt := 4) dX9_idle_53 (by decide) ?_
          rw [show bF (fun k => pc8 (opn φ it (fi φ k) (se φ k)) = 1) v = bF (fun k => pc8 (opn φ it (fi φ k) (se φ k)) = 1) (v + 1) from (bF_n (P := (fun k => pc8 (opn φ it (fi φ k) (se φ k)) = 1)) (fun q => by have q : pc8 (opn φ it (fi φ v) (se φ v)) = 1 := q; omega)).symm]
          exact ih4 (v + 1) h34 hx__1 hf__1 hk__1 hfi__1 hse__1 fr__1 (by omega) hS3 (by omega)
        · skip
          refine g_iload_n k rfl dX9_idle_44 ?_
          refine g_iconst k dX9_idle_45 ?_
          refine g_iload_n k rfl dX9_idle_46 ?_
          refine g_ishl k (by omega) dX9_idle_47 ?_
          rw [show 1 * 2 ^ ((v : Int)).toNat = ((2 ^ v : Nat) : Int) from (by rw [Int.toNat_natCast]; simp)]
          refine g_ior k (a := bF (fun k => pc8 (opn φ it (fi φ k) (se φ k)) = 1) v) (b := 2 ^ v) (by omega) (by omega) dX9_idle_48 ?_
          refine g_istore_n k (lv2 := [(0, .ref x), (1, vi ((bF (fun k => pc8 (opn φ it (fi φ k) (se φ k)) = 1) v ||| 2 ^ v : Nat) : Int)), (2, vi (v : Int))]) (by decide) rfl rfl dX9_idle_49 ?_
          refine g_iinc k (lv2 := [(0, .ref x), (1, vi ((bF (fun k => pc8 (opn φ it (fi φ k) (se φ k)) = 1) v ||| 2 ^ v : Nat) : Int)), (2, vi ((v : Int) + 1))]) rfl (by decide) rfl rfl dX9_idle_50 ?_
          refine g_goto k (tgt := 4) dX9_idle_53 (by decide) ?_
          rw [show bF (fun k => pc8 (opn φ it (fi φ k) (se φ k)) = 1) v ||| 2 ^ v = bF (fun k => pc8 (opn φ it (fi φ k) (se φ k)) = 1) (v + 1) from (bF_y (P := (fun k => pc8 (opn φ it (fi φ k) (se φ k)) = 1)) (show pc8 (opn φ it (fi φ v) (se φ v)) = 1 by omega)).symm]
          exact ih4 (v + 1) h34 hx__1 hf__1 hk__1 hfi__1 hse__1 fr__1 (by omega) hS3 (by omega)
  exact K4 _ 0 h hx hf hk hfi hse fr0 (Nat.zero_le _) hS (Nat.lt_succ_self _)

def lbF (M : Nat → Int) (i : Nat) : Nat → Int
  | 0 => 0
  | v + 1 => if lbF M i v < M (i * 8 + v) then M (i * 8 + v) else lbF M i v
theorem lbF_bd {M : Nat → Int} {i : Nat} {B : Int} (hB : Bd B M) (h0 : 0 ≤ B) (hi : i < 8) : ∀ n, n ≤ 8 → 0 ≤ lbF M i n ∧ lbF M i n ≤ B
  | 0, _ => ⟨Int.le_refl 0, h0⟩
  | n + 1, hn => by
    have ih := lbF_bd hB h0 hi n (by omega)
    have := hB (i * 8 + n) (by omega)
    unfold lbF
    split <;> omega
set_option maxHeartbeats 600000 in
set_option maxRecDepth 100000 in
theorem c_X9_late {G : Gx} {h : Hp} {nx x : Nat} {it : Nat} {φ : Fs} {ps : List (Nat × Fs)} {im : Nat → Option (Nat × Fs)} {V : RV} {n : Nat} {T : Nat → Int} {ft : Nat} (hS : SF G h x it φ ps im V n T ft) (hSm : Sm it φ) {p p2 p3 : Int} (rp : -2147483648 ≤ p ∧ p ≤ 2147483647) (rp2 : -2147483648 ≤ p2 ∧ p2 ≤ 2147483647) (rp3 : -2147483648 ≤ p3 ∧ p3 ≤ 2147483647) : Con G yX9_late cX9_late 6 (some .int) 5 0 0 [.ref x, vi p, vi p2, vi p3] h nx (PI fun z h' => (((hasI it p ∧ (0 ≤ p3 ∧ p3 ≤ 999) ∧ lyO φ it p2 ∧ ∀ v, v < it → ely (str φ p2 it) v it ≤ p3) → z = p3 - lbF (str φ p2 it) p.toNat it) ∧ (¬ (hasI it p ∧ (0 ≤ p3 ∧ p3 ≤ 999) ∧ lyO φ it p2 ∧ ∀ v, v < it → ely (str φ p2 it) v it ≤ p3) → z = -1)) ∧ SF G h' x it φ ps im V n T ft ∧ ∀ q : Nat, (q < x ∨ x + 140 < q) → h' q = h q) := by
  obtain ⟨⟨sd, hx⟩, cF, cM, cP, cI, cV, cK, cR, cO, cW, cS, cZ, cT, cD⟩ := id hS
  have cF : FA G h (x + 1) it φ := cF
  have cP : PA G h (x + 9) ps := cP
  have cV : GV G h (x + 53) V := cV
  have cT : TA G h (x + 133) n T := cT
  have hf := cF.ob
  have hp := cP.ob
  have hv := cV.ob
  have ht := cT.1
  obtain ⟨itR, MR, hRA⟩ := cR
  have hRA : RA G h (x + 59) itR MR := hRA
  have hr := hRA.1
  have h8 := hSm.1
  have h28 := hSm.2.1
  refine Con.of v_X9_late.2.2.2.2.2.1 (Nat.le_of_ble_eq_true rfl) (lv := [(0, .ref x), (1, vi p), (2, vi p2), (3, vi p3)]) rfl (fun X k => ?_)
  generalize hQQ : QM G X nx 0 0 _ = QQ
  have fr0 : ∀ q : Nat, (q < x ∨ x + 140 < q) → h q = h q := fun _ _ => rfl
  refine g_aload_n k rfl dX9_late_0 ?_
  refine g_get k 9 0 (C := RX9) (T := TX9) (N := 15) fl_X9_12 rfl wi_X9 (by decide) rfl hx rfl dX9_late_1 ?_
  refine g_iload_n k rfl dX9_late_4 ?_
  refine g_cVi k 0 (As := [vi p]) v_X0_hasItem rfl rfl hf ml_X9_192 (c_X0_hasItem cF hSm rp) (by omega) (by omega) rfl (Nat.le_of_ble_eq_true rfl) rfl dX9_late_5 (fun r5 h5 p5 => ?_)
  obtain ⟨eh5, p5⟩ := p5
  have eh5 := eh5.symm; subst eh5
  have q5 := p5
  have q5r := q5.r
  refine g_if_eq k (tgt := 30) (by omega) dX9_late_8 (by decide) (fun c8 => ?_) (fun c8 => ?_)
  · skip
    refine g_iconst k dX9_late_30 ?_
    rw [← hQQ]
    refine g_ireti k rfl dX9_late_31 ?_
    exact ⟨⟨fun q => absurd q.1 (q5.f (by omega)), fun _ => rfl⟩, hS, fr0⟩
  · skip
    have hh := q5.t (by omega)
    obtain ⟨k1, ek1, hk1⟩ := nat_of hh
    rw [ek1]
    refine g_iload_n k rfl dX9_late_11 ?_
    refine g_if_lt k (tgt := 30) (by omega) dX9_late_12 (by decide) (fun c12 => ?_) (fun c12 => ?_)
    · skip
      refine g_iconst k dX9_late_30 ?_
      rw [← hQQ]
      refine g_ireti k rfl dX9_late_31 ?_
      exact ⟨⟨fun q => absurd q.2.1 (by omega), fun _ => rfl⟩, hS, fr0⟩
    · skip
      refine g_iload_n k rfl dX9_late_15 ?_
      refine g_sipush k rfl dX9_late_16 ?_
      refine g_icmp_gt k (tgt := 30) (by omega) (by omega) dX9_late_19 (by decide) (fun c19 => ?_) (fun c19 => ?_)
      · skip
        refine g_iconst k dX9_late_30 ?_
        rw [← hQQ]
        refine g_ireti k rfl dX9_late_31 ?_
        exact ⟨⟨fun q => absurd q.2.1 (by omega), fun _ => rfl⟩, hS, fr0⟩
      · skip
        refine g_aload_n k rfl dX9_late_22 ?_
        refine g_iload_n k rfl dX9_late_23 ?_
        refine g_cVi k 9 (As := [vi p2]) v_X9_layOut rfl rfl hx ml_X9_195 (c_X9_layOut hS hSm rp2) (by omega) (by omega) rfl (Nat.le_of_ble_eq_true rfl) rfl dX9_late_24 (fun r24 h24 p24 => ?_)
        obtain ⟨pz, nRA, hS1, nfr⟩ := p24
        have hx_ : h24 x = some (ob 9 [.ref (x + 1), .ref (x + 5), .ref (x + 9), .ref (x + 43), .ref (x + 52), .ref (x + 53), .ref (x + 56), .ref (x + 59), .ref (x + 61), .ref (x + 68), .ref (x + 130), .ref (x + 132), .ref (x + 133), .ref (x + 135), vi sd]) := (nfr _ (by omega)).trans hx
        have hf_ : h24 (x + 1) = some (ob 0 [vi (it : Int), vi (φ.length : Int), .ref (x + 1 + 1), .ref (x + 1 + 2), .ref (x + 1 + 3)]) := (nfr _ (by omega)).trans hf
        have fr_ : ∀ q : Nat, (q < x ∨ x + 140 < q) → h24 q = h q := fun q hq => (nfr q (by omega)).trans (fr0 q hq)
        have pzr := pz.r
        refine g_if_ne k (tgt := 32) (by omega) dX9_late_27 (by decide) (fun c27 => ?_) (fun c27 => ?_)
        · skip
          have hly := pz.t (by omega)
          have nR := nRA hly
          have hr2 := nR.1
          have hbd := str_bd (φ := φ) (it := it) (L := p2) h8 ⟨hly.1, hly.2.1⟩
          have hly1 := hly.1
          have hly2 := hly.2.1
          refine g_iconst k dX9_late_32 ?_
          refine g_istore k (lv2 := [(0, .ref x), (1, vi (k1 : Int)), (2, vi p2), (3, vi p3), (4, vi 0)]) (by decide) rfl rfl dX9_late_33 ?_
          refine g_iconst k dX9_late_35 ?_
          refine g_istore k (lv2 := [(0, .ref x), (1, vi (k1 : Int)), (2, vi p2), (3, vi p3), (4, vi 0), (5, vi 0)]) (by decide) rfl rfl dX9_late_36 ?_
          have K38 : ∀ (nz : Nat) (v : Nat) (hv : v ≤ it) (hle : ∀ u, u < v → ely (str φ p2 it) u it ≤ p3) (hmz : it - v < nz), Go G X 6 QQ 0 0 nx 38 [(0, .ref x), (1, vi (k1 : Int)), (2, vi p2), (3, vi p3), (4, vi (lbF (str φ p2 it) k1 v)), (5, vi (v : Int))] [] h24 := by
            intro nz
            induction nz with
            | zero => intro v hv hle hmz; exact absurd hmz (Nat.not_lt_zero _)
            | succ nz ih38 =>
              intro v hv hle hmz
              refine g_iload k rfl dX9_late_38 ?_
              refine g_aload_n k rfl dX9_late_40 ?_
              refine g_get k 9 0 (C := RX9) (T := TX9) (N := 15) fl_X9_12 rfl wi_X9 (by decide) rfl hx_ rfl dX9_late_41 ?_
              refine g_get k 0 0 (C := RX0) (T := TX0) (N := 5) fl_X9_120 rfl wi_X0 (by decide) rfl hf_ rfl dX9_late_44 ?_
              refine g_icmp_ge k (tgt := 88) (by omega) (by omega) dX9_late_47 (by decide) (fun c47 => ?_) (fun c47 => ?_)
              · skip
                refine g_iload_n k rfl dX9_late_88 ?_
                refine g_iload k rfl dX9_late_89 ?_
                refine g_isub k dX9_late_91 ?_
                rw [← hQQ]
                refine g_ireti k rfl dX9_late_92 ?_
                have e : v = it := by omega
                subst e
                refine ⟨⟨fun _ => ?_, fun q => absurd ⟨hh, by omega, hly, hle⟩ q⟩, hS1, fr_⟩
                rw [show p.toNat = k1 by omega]
              · skip
                have he1 := ely_bd (i := v) hbd (by omega) (by omega) it h8
                have hl1 := lbF_bd (i := k1) hbd (by omega) (by omega) v (by omega)
                have hb1 := hbd (k1 * 8 + v) (by omega)
                refine g_aload_n k rfl dX9_late_50 ?_
                refine g_get k 9 7 (C := RX9) (T := TX9) (N := 15) fl_X9_47 rfl wi_X9 (by decide) rfl hx_ rfl dX9_late_51 ?_
                refine g_iload k rfl dX9_late_54 ?_
                refine g_cVi k 3 (As := [vi (v : Int)]) v_X3_earliest rfl rfl hr2 ml_X9_198 (c_X3_earliest nR h8 hbd (by omega) (i1 := v) (by omega)) (by omega) (by omega) rfl (Nat.le_of_ble_eq_true rfl) rfl dX9_late_56 (fun r56 h56 p56 => ?_)
                obtain ⟨eh56, p56⟩ := p56
                have eh56 := eh56.symm; subst eh56
                subst p56
                refine g_iload_n k rfl dX9_late_59 ?_
                refine g_icmp_le k (tgt := 65) (by omega) (by omega) dX9_late_60 (by decide) (fun c60 => ?_) (fun c60 => ?_)
                · skip
                  refine g_iload k rfl dX9_late_65 ?_
                  refine g_aload_n k rfl dX9_late_67 ?_
                  refine g_get k 9 7 (C := RX9) (T := TX9) (N := 15) fl_X9_47 rfl wi_X9 (by decide) rfl hx_ rfl dX9_late_68 ?_
                  refine g_iload_n k rfl dX9_late_71 ?_
                  refine g_iload k rfl dX9_late_72 ?_
                  refine g_cVi k 3 (As := [vi (k1 : Int), vi (v : Int)]) v_X3_between rfl rfl hr2 ml_X9_203 (c_X3_between nR (u := k1) (v := v) (by omega) (by omega)) (by omega) (by omega) rfl (Nat.le_of_ble_eq_true rfl) rfl dX9_late_74 (fun r74 h74 p74 => ?_)
                  obtain ⟨eh74, p74⟩ := p74
                  have eh74 := eh74.symm; subst eh74
                  subst p74
                  refine g_max k (by omega) (by omega) ml_X9_227 st_max cd_max (by omega) (by omega) (Nat.le_of_ble_eq_true rfl) dX9_late_77 ?_
                  rw [show (if (lbF (str φ p2 it) k1 v) < (str φ p2 it (k1 * 8 + v)) then (str φ p2 it (k1 * 8 + v)) else (lbF (str φ p2 it) k1 v)) = lbF (str φ p2 it) k1 (v + 1) from rfl]
                  refine g_istore k (lv2 := [(0, .ref x), (1, vi (k1 : Int)), (2, vi p2), (3, vi p3), (4, vi (lbF (str φ p2 it) k1 (v + 1))), (5, vi (v : Int))]) (by decide) rfl rfl dX9_late_80 ?_
                  refine g_iinc k (lv2 := [(0, .ref x), (1, vi (k1 : Int)), (2, vi p2), (3, vi p3), (4, vi (lbF (str φ p2 it) k1 (v + 1))), (5, vi ((v : Int) + 1))]) rfl (by decide) rfl rfl dX9_late_82 ?_
                  refine g_goto k (tgt := 38) dX9_late_85 (by decide) ?_
                  exact ih38 (v + 1) (by omega) (lt_s2 hle (by omega)) (by omega)
                · skip
                  refine g_iconst k dX9_late_63 ?_
                  rw [← hQQ]
                  refine g_ireti k rfl dX9_late_64 ?_
                  exact ⟨⟨fun q => by have := q.2.2.2 v (by omega); omega, fun _ => rfl⟩, hS1, fr_⟩
          exact K38 _ 0 (Nat.zero_le _) (fun u hu => absurd hu (Nat.not_lt_zero u)) (Nat.lt_succ_self _)
        · skip
          refine g_iconst k dX9_late_30 ?_
          rw [← hQQ]
          refine g_ireti k rfl dX9_late_31 ?_
          exact ⟨⟨fun q => absurd q.2.2.1 (pz.f (by omega)), fun _ => rfl⟩, hS1, fr_⟩

