/-! tell, test, forget, grow, drop, turn, undo, refuted, ring, feed -/
theorem nat_of {p : Int} {it : Nat} (h : hasI it p) : ∃ m : Nat, p = m ∧ m < it := ⟨p.toNat, by unfold hasI at h; omega, by unfold hasI at h; omega⟩
noncomputable def tlF (it : Nat) (φ : Fs) (ps : List (Nat × Fs)) (V : RV) (kx p p2 : Int) : Int × Fs × List (Nat × Fs) × RV :=
  haveI := Classical.propDecidable (nmd it φ kx p p2)
  haveI := Classical.propDecidable (rfd φ 0 it kx.toNat p.toNat p2.toNat)
  if nmd it φ kx p p2 then (if rfd φ 0 it kx.toNat p.toNat p2.toNat then (-2, φ, ps, skV φ 0 it kx.toNat p.toNat p2.toNat V) else (φ.length, φ ++ [(kx.toNat, p.toNat, p2.toNat)], psh ps (it, φ), V)) else (-1, φ, ps, V)
noncomputable def tsF (it : Nat) (φ : Fs) (V : RV) (kx p p2 : Int) : Int × RV :=
  haveI := Classical.propDecidable (nmd it φ kx p p2)
  haveI := Classical.propDecidable (rfd φ 0 it kx.toNat p.toNat p2.toNat)
  if nmd it φ kx p p2 then (if rfd φ 0 it kx.toNat p.toNat p2.toNat then ((skV φ 0 it kx.toNat p.toNat p2.toNat V).1, skV φ 0 it kx.toNat p.toNat p2.toNat V) else (0, V)) else (-1, V)
theorem skV_n {φ : Fs} {w it k x y : Nat} {V : RV} (h : ¬ rfd φ w it k x y) : skV φ w it k x y V = V := by rw [skV, if_neg (show ¬ 0 < (skN φ w it k x y).1 from h)]
set_option maxHeartbeats 600000 in
set_option maxRecDepth 100000 in
theorem c_X9_tell {G : Gx} {h : Hp} {nx x : Nat} {it : Nat} {φ : Fs} {ps : List (Nat × Fs)} {im : Nat → Option (Nat × Fs)} {V : RV} {n : Nat} {T : Nat → Int} {ft : Nat} (hS : SF G h x it φ ps im V n T ft) (hSm : Sm it φ) {kx p p2 : Int} (rkx : -2147483648 ≤ kx ∧ kx ≤ 2147483647) (rp : -2147483648 ≤ p ∧ p ≤ 2147483647) (rp2 : -2147483648 ≤ p2 ∧ p2 ≤ 2147483647) : Con G yX9_tell cX9_tell 4 (some .int) 5 0 0 [.ref x, vi kx, vi p, vi p2] h nx (PI fun z h' => z = (tlF it φ ps V kx p p2).1 ∧ SF G h' x it (tlF it φ ps V kx p p2).2.1 (tlF it φ ps V kx p p2).2.2.1 im (tlF it φ ps V kx p p2).2.2.2 n T ft ∧ ∀ q : Nat, (q < x ∨ x + 140 < q) → h' q = h q) := by
  obtain ⟨⟨sd, hx⟩, cF, cM, cP, cI, cV, cK, cR, cO, cW, cS, cZ, cT, cD⟩ := id hS
  have cF : FA G h (x + 1) it φ := cF
  have cP : PA G h (x + 9) ps := cP
  have cV : GV G h (x + 53) V := cV
  have cT : TA G h (x + 133) n T := cT
  have hf := cF.ob
  have hp := cP.ob
  have hv := cV.ob
  have ht := cT.1
  have h28 := hSm.2.1
  refine Con.of v_X9_tell.2.2.2.2.2.1 (Nat.le_of_ble_eq_true rfl) (lv := [(0, .ref x), (1, vi kx), (2, vi p), (3, vi p2)]) rfl (fun X k => ?_)
  generalize hQQ : QM G X nx 0 0 _ = QQ
  have fr0 : ∀ q : Nat, (q < x ∨ x + 140 < q) → h q = h q := fun _ _ => rfl
  refine g_aload_n k rfl dX9_tell_0 ?_
  refine g_iload_n k rfl dX9_tell_1 ?_
  refine g_iload_n k rfl dX9_tell_2 ?_
  refine g_iload_n k rfl dX9_tell_3 ?_
  refine g_cVi k 9 (As := [vi kx, vi p, vi p2]) v_X9_canBeNamed rfl rfl hx ml_X9_161 (c_X9_canBeNamed hS hSm rkx rp rp2) (by omega) (by omega) rfl (Nat.le_of_ble_eq_true rfl) rfl dX9_tell_4 (fun r4 h4 p4 => ?_)
  obtain ⟨eh4, p4⟩ := p4
  have eh4 := eh4.symm; subst eh4
  have q4 := p4
  have q4r := q4.r
  refine g_if_ne k (tgt := 12) (by omega) dX9_tell_7 (by decide) (fun c7 => ?_) (fun c7 => ?_)
  · skip
    have hnd := q4.t (by omega)
    obtain ⟨k1, ek1⟩ : ∃ k1 : Nat, kx = k1 := ⟨kx.toNat, by have := hnd.1; omega⟩
    obtain ⟨x1, ex1, hx1⟩ := nat_of hnd.2.1.1
    obtain ⟨y1, ey1, hy1⟩ := nat_of hnd.2.1.2.1
    have hk1 : k1 ≤ 1 := by have := hnd.1; omega
    have hne : x1 ≠ y1 := by have := hnd.2.1.2.2; omega
    have hix : ix φ (x1 : Int) (y1 : Int) = -1 := by rw [← ex1, ← ey1]; exact hnd.2.2
    have hnd2 : nmd it φ (k1 : Int) (x1 : Int) (y1 : Int) := by rw [← ek1, ← ex1, ← ey1]; exact hnd
    rw [ek1, ex1, ey1]
    rw [ek1, ex1, ey1] at hQQ
    refine g_aload_n k rfl dX9_tell_12 ?_
    refine g_get k 9 5 (C := RX9) (T := TX9) (N := 15) fl_X9_37 rfl wi_X9 (by decide) rfl hx rfl dX9_tell_13 ?_
    refine g_aload_n k rfl dX9_tell_16 ?_
    refine g_get k 9 0 (C := RX9) (T := TX9) (N := 15) fl_X9_12 rfl wi_X9 (by decide) rfl hx rfl dX9_tell_17 ?_
    refine g_iconst k dX9_tell_20 ?_
    refine g_iload_n k rfl dX9_tell_21 ?_
    refine g_iload_n k rfl dX9_tell_22 ?_
    refine g_iload_n k rfl dX9_tell_23 ?_
    refine g_cVi k 5 (As := [.ref (x + 1), vi 0, vi (k1 : Int), vi (x1 : Int), vi (y1 : Int)]) v_X5_seek rfl rfl hv ml_X9_165 (c_seekV cV cF hSm (by omega) (w := 0) (by omega) (k1 := k1) (x := x1) (y := y1) hk1 hx1 hy1) (by omega) (by omega) rfl (Nat.le_of_ble_eq_true rfl) rfl dX9_tell_24 (fun r24 h24 p24 => ?_)
    obtain ⟨sz, nV, nfr⟩ := p24
    have hx_ : h24 x = some (ob 9 [.ref (x + 1), .ref (x + 5), .ref (x + 9), .ref (x + 43), .ref (x + 52), .ref (x + 53), .ref (x + 56), .ref (x + 59), .ref (x + 61), .ref (x + 68), .ref (x + 130), .ref (x + 132), .ref (x + 133), .ref (x + 135), vi sd]) := (nfr _ (by omega)).trans hx
    have hf_ : h24 (x + 1) = some (ob 0 [vi (it : Int), vi (φ.length : Int), .ref (x + 1 + 1), .ref (x + 1 + 2), .ref (x + 1 + 3)]) := (nfr _ (by omega)).trans hf
    have hp_ : h24 (x + 9) = some (ob 2 [vi (ps.length : Int), .ref (x + 9 + 1)]) := (nfr _ (by omega)).trans hp
    have fr_ : ∀ q : Nat, (q < x ∨ x + 140 < q) → h24 q = h q := fun q hq => (nfr q (by omega)).trans (fr0 q hq)
    have szr := sz.r
    have hS1 := hS.sV (V' := skV φ 0 it k1 x1 y1 V) nV (fun q g => nfr q (by omega))
    refine g_if_eq k (tgt := 33) (by omega) dX9_tell_27 (by decide) (fun c27 => ?_) (fun c27 => ?_)
    · skip
      refine g_aload_n k rfl dX9_tell_33 ?_
      refine g_get k 9 2 (C := RX9) (T := TX9) (N := 15) fl_X9_22 rfl wi_X9 (by decide) rfl hx_ rfl dX9_tell_34 ?_
      refine g_aload_n k rfl dX9_tell_37 ?_
      refine g_get k 9 0 (C := RX9) (T := TX9) (N := 15) fl_X9_12 rfl wi_X9 (by decide) rfl hx_ rfl dX9_tell_38 ?_
      refine g_cVv k 2 (As := [.ref (x + 1)]) v_X2_push rfl rfl hp_ ml_X9_169 (c_X2_push (cP.keep (fun q g1 g2 => nfr q (by omega))) (cF.keep (fun q g1 g2 => nfr q (by omega))) h28 (by omega)) (by omega) (by omega) rfl (Nat.le_of_ble_eq_true rfl) rfl dX9_tell_41 (fun h41 p41 => ?_)
      obtain ⟨nP, nfr2⟩ := p41
      have hx__1 : h41 x = some (ob 9 [.ref (x + 1), .ref (x + 5), .ref (x + 9), .ref (x + 43), .ref (x + 52), .ref (x + 53), .ref (x + 56), .ref (x + 59), .ref (x + 61), .ref (x + 68), .ref (x + 130), .ref (x + 132), .ref (x + 133), .ref (x + 135), vi sd]) := (nfr2 _ (by omega)).trans hx_
      have hf__1 : h41 (x + 1) = some (ob 0 [vi (it : Int), vi (φ.length : Int), .ref (x + 1 + 1), .ref (x + 1 + 2), .ref (x + 1 + 3)]) := (nfr2 _ (by omega)).trans hf_
      have fr__1 : ∀ q : Nat, (q < x ∨ x + 140 < q) → h41 q = h q := fun q hq => (nfr2 q (by omega)).trans (fr_ q hq)
      have hS2 := hS1.sP (ps' := psh ps (it, φ)) nP (fun q g => nfr2 q (by omega))
      obtain ⟨K3, F3, Z3, -, k3, f3, z3, hrr⟩ : FA G h41 (x + 1) it φ := hS2.2.1
      refine g_aload_n k rfl dX9_tell_44 ?_
      refine g_get k 9 0 (C := RX9) (T := TX9) (N := 15) fl_X9_12 rfl wi_X9 (by decide) rfl hx__1 rfl dX9_tell_45 ?_
      refine g_iload_n k rfl dX9_tell_48 ?_
      refine g_iload_n k rfl dX9_tell_49 ?_
      refine g_iload_n k rfl dX9_tell_50 ?_
      refine g_cVv k 0 (As := [vi (k1 : Int), vi (x1 : Int), vi (y1 : Int)]) v_X0_add rfl rfl hf__1 ml_X9_172 (c_X0_add ⟨hf__1, k3, f3, z3⟩ (len28 hSm hx1 hy1 hne hix) (x := (k1 : Int)) (y := (x1 : Int)) (z := (y1 : Int))) (by omega) (by omega) rfl (Nat.le_of_ble_eq_true rfl) rfl dX9_tell_51 (fun h51 p51 => ?_)
      obtain ⟨⟨na, nk, nf, nz2⟩, nfr3⟩ := p51
      have hx__2 : h51 x = some (ob 9 [.ref (x + 1), .ref (x + 5), .ref (x + 9), .ref (x + 43), .ref (x + 52), .ref (x + 53), .ref (x + 56), .ref (x + 59), .ref (x + 61), .ref (x + 68), .ref (x + 130), .ref (x + 132), .ref (x + 133), .ref (x + 135), vi sd]) := (nfr3 _ (by omega)).trans hx__1
      have hf__2 : h51 (x + 1) = some (ob 0 [vi (it : Int), vi ((φ.length + 1 : Nat) : Int), .ref (x + 1 + 1), .ref (x + 1 + 2), .ref (x + 1 + 3)]) := na
      have fr__2 : ∀ q : Nat, (q < x ∨ x + 140 < q) → h51 q = h q := fun q hq => (nfr3 q (by omega)).trans (fr__1 q hq)
      have hS3 := hS2.sF (it' := it) (φ' := φ ++ [(k1, x1, y1)]) ⟨_, _, _, by rw [show (φ ++ [(k1, x1, y1)]).length = φ.length + 1 from List.length_append]; exact na, nk, nf, nz2, hrr.add⟩ (fun q g => nfr3 q (by omega))
      refine g_aload_n k rfl dX9_tell_54 ?_
      refine g_get k 9 0 (C := RX9) (T := TX9) (N := 15) fl_X9_12 rfl wi_X9 (by decide) rfl hx__2 rfl dX9_tell_55 ?_
      refine g_get k 0 1 (C := RX0) (T := TX0) (N := 5) fl_X9_123 rfl wi_X0 (by decide) rfl hf__2 rfl dX9_tell_58 ?_
      refine g_iconst k dX9_tell_61 ?_
      refine g_isub k dX9_tell_62 ?_
      rw [← hQQ]
      refine g_ireti k rfl dX9_tell_63 ?_
      have hnr := sz.f (by omega)
      have e : tlF it φ ps V (k1 : Int) (x1 : Int) (y1 : Int) = ((φ.length : Int), φ ++ [(k1, x1, y1)], psh ps (it, φ), V) := by unfold tlF; simp only [Int.toNat_natCast]; rw [if_pos hnd2, if_neg hnr]
      rw [e]
      rw [skV_n hnr] at hS3
      exact ⟨by dsimp only; omega, hS3, fr__2⟩
    · skip
      refine g_bipush k rfl dX9_tell_30 ?_
      rw [← hQQ]
      refine g_ireti k rfl dX9_tell_32 ?_
      have e : tlF it φ ps V (k1 : Int) (x1 : Int) (y1 : Int) = (-2, φ, ps, skV φ 0 it k1 x1 y1 V) := by unfold tlF; simp only [Int.toNat_natCast]; rw [if_pos hnd2, if_pos (sz.t (by omega))]
      rw [e]
      exact ⟨rfl, hS1, fr_⟩
  · skip
    refine g_iconst k dX9_tell_10 ?_
    rw [← hQQ]
    refine g_ireti k rfl dX9_tell_11 ?_
    have e : tlF it φ ps V kx p p2 = (-1, φ, ps, V) := by unfold tlF; rw [if_neg (q4.f (by omega))]
    rw [e]
    exact ⟨rfl, hS, fr0⟩

set_option maxHeartbeats 600000 in
set_option maxRecDepth 100000 in
theorem c_X9_test {G : Gx} {h : Hp} {nx x : Nat} {it : Nat} {φ : Fs} {ps : List (Nat × Fs)} {im : Nat → Option (Nat × Fs)} {V : RV} {n : Nat} {T : Nat → Int} {ft : Nat} (hS : SF G h x it φ ps im V n T ft) (hSm : Sm it φ) {kx p p2 : Int} (rkx : -2147483648 ≤ kx ∧ kx ≤ 2147483647) (rp : -2147483648 ≤ p ∧ p ≤ 2147483647) (rp2 : -2147483648 ≤ p2 ∧ p2 ≤ 2147483647) : Con G yX9_test cX9_test 4 (some .int) 5 0 0 [.ref x, vi kx, vi p, vi p2] h nx (PI fun z h' => z = (tsF it φ V kx p p2).1 ∧ SF G h' x it φ ps im (tsF it φ V kx p p2).2 n T ft ∧ ∀ q : Nat, (q < x ∨ x + 140 < q) → h' q = h q) := by
  obtain ⟨⟨sd, hx⟩, cF, cM, cP, cI, cV, cK, cR, cO, cW, cS, cZ, cT, cD⟩ := id hS
  have cF : FA G h (x + 1) it φ := cF
  have cP : PA G h (x + 9) ps := cP
  have cV : GV G h (x + 53) V := cV
  have cT : TA G h (x + 133) n T := cT
  have hf := cF.ob
  have hp := cP.ob
  have hv := cV.ob
  have ht := cT.1
  refine Con.of v_X9_test.2.2.2.2.2.1 (Nat.le_of_ble_eq_true rfl) (lv := [(0, .ref x), (1, vi kx), (2, vi p), (3, vi p2)]) rfl (fun X k => ?_)
  generalize hQQ : QM G X nx 0 0 _ = QQ
  have fr0 : ∀ q : Nat, (q < x ∨ x + 140 < q) → h q = h q := fun _ _ => rfl
  refine g_aload_n k rfl dX9_test_0 ?_
  refine g_iload_n k rfl dX9_test_1 ?_
  refine g_iload_n k rfl dX9_test_2 ?_
  refine g_iload_n k rfl dX9_test_3 ?_
  refine g_cVi k 9 (As := [vi kx, vi p, vi p2]) v_X9_canBeNamed rfl rfl hx ml_X9_161 (c_X9_canBeNamed hS hSm rkx rp rp2) (by omega) (by omega) rfl (Nat.le_of_ble_eq_true rfl) rfl dX9_test_4 (fun r4 h4 p4 => ?_)
  obtain ⟨eh4, p4⟩ := p4
  have eh4 := eh4.symm; subst eh4
  have q4 := p4
  have q4r := q4.r
  refine g_if_ne k (tgt := 12) (by omega) dX9_test_7 (by decide) (fun c7 => ?_) (fun c7 => ?_)
  · skip
    have hnd := q4.t (by omega)
    obtain ⟨k1, ek1⟩ : ∃ k1 : Nat, kx = k1 := ⟨kx.toNat, by have := hnd.1; omega⟩
    obtain ⟨x1, ex1, hx1⟩ := nat_of hnd.2.1.1
    obtain ⟨y1, ey1, hy1⟩ := nat_of hnd.2.1.2.1
    have hk1 : k1 ≤ 1 := by have := hnd.1; omega
    have hne : x1 ≠ y1 := by have := hnd.2.1.2.2; omega
    have hix : ix φ (x1 : Int) (y1 : Int) = -1 := by rw [← ex1, ← ey1]; exact hnd.2.2
    have hnd2 : nmd it φ (k1 : Int) (x1 : Int) (y1 : Int) := by rw [← ek1, ← ex1, ← ey1]; exact hnd
    rw [ek1, ex1, ey1]
    rw [ek1, ex1, ey1] at hQQ
    refine g_aload_n k rfl dX9_test_12 ?_
    refine g_get k 9 5 (C := RX9) (T := TX9) (N := 15) fl_X9_37 rfl wi_X9 (by decide) rfl hx rfl dX9_test_13 ?_
    refine g_aload_n k rfl dX9_test_16 ?_
    refine g_get k 9 0 (C := RX9) (T := TX9) (N := 15) fl_X9_12 rfl wi_X9 (by decide) rfl hx rfl dX9_test_17 ?_
    refine g_iconst k dX9_test_20 ?_
    refine g_iload_n k rfl dX9_test_21 ?_
    refine g_iload_n k rfl dX9_test_22 ?_
    refine g_iload_n k rfl dX9_test_23 ?_
    refine g_cVi k 5 (As := [.ref (x + 1), vi 0, vi (k1 : Int), vi (x1 : Int), vi (y1 : Int)]) v_X5_seek rfl rfl hv ml_X9_165 (c_seekV cV cF hSm (by omega) (w := 0) (by omega) (k1 := k1) (x := x1) (y := y1) hk1 hx1 hy1) (by omega) (by omega) rfl (Nat.le_of_ble_eq_true rfl) rfl dX9_test_24 (fun r24 h24 p24 => ?_)
    obtain ⟨sz, nV, nfr⟩ := p24
    have hx_ : h24 x = some (ob 9 [.ref (x + 1), .ref (x + 5), .ref (x + 9), .ref (x + 43), .ref (x + 52), .ref (x + 53), .ref (x + 56), .ref (x + 59), .ref (x + 61), .ref (x + 68), .ref (x + 130), .ref (x + 132), .ref (x + 133), .ref (x + 135), vi sd]) := (nfr _ (by omega)).trans hx
    have hf_ : h24 (x + 1) = some (ob 0 [vi (it : Int), vi (φ.length : Int), .ref (x + 1 + 1), .ref (x + 1 + 2), .ref (x + 1 + 3)]) := (nfr _ (by omega)).trans hf
    have fr_ : ∀ q : Nat, (q < x ∨ x + 140 < q) → h24 q = h q := fun q hq => (nfr q (by omega)).trans (fr0 q hq)
    have szr := sz.r
    have hS1 := hS.sV (V' := skV φ 0 it k1 x1 y1 V) nV (fun q g => nfr q (by omega))
    have hv2 := GV.ob (show GV G h24 (x + 53) (skV φ 0 it k1 x1 y1 V) from nV)
    refine g_if_eq k (tgt := 40) (by omega) dX9_test_27 (by decide) (fun c27 => ?_) (fun c27 => ?_)
    · skip
      refine g_iconst k dX9_test_40 ?_
      rw [← hQQ]
      refine g_ireti k rfl dX9_test_41 ?_
      first | (have hnr := sz.f (by omega); have e : tsF it φ V (k1 : Int) (x1 : Int) (y1 : Int) = (0, V) := (by unfold tsF; simp only [Int.toNat_natCast]; rw [if_pos hnd2, if_neg hnr]); rw [e]; rw [skV_n hnr] at hS1; exact ⟨rfl, hS1, fr_⟩) | (have e : tsF it φ V (k1 : Int) (x1 : Int) (y1 : Int) = ((skV φ 0 it k1 x1 y1 V).1, skV φ 0 it k1 x1 y1 V) := (by unfold tsF; simp only [Int.toNat_natCast]; rw [if_pos hnd2, if_pos (sz.t (by omega))]); rw [e]; exact ⟨rfl, hS1, fr_⟩)
    · skip
      refine g_aload_n k rfl dX9_test_30 ?_
      refine g_get k 9 5 (C := RX9) (T := TX9) (N := 15) fl_X9_37 rfl wi_X9 (by decide) rfl hx_ rfl dX9_test_31 ?_
      refine g_get k 5 0 (C := RX5) (T := TX5) (N := 6) fl_X9_176 rfl wi_X5 (by decide) rfl hv2 rfl dX9_test_34 ?_
      refine g_goto k (tgt := 41) dX9_test_37 (by decide) ?_
      rw [← hQQ]
      refine g_ireti k rfl dX9_test_41 ?_
      first | (have hnr := sz.f (by omega); have e : tsF it φ V (k1 : Int) (x1 : Int) (y1 : Int) = (0, V) := (by unfold tsF; simp only [Int.toNat_natCast]; rw [if_pos hnd2, if_neg hnr]); rw [e]; rw [skV_n hnr] at hS1; exact ⟨rfl, hS1, fr_⟩) | (have e : tsF it φ V (k1 : Int) (x1 : Int) (y1 : Int) = ((skV φ 0 it k1 x1 y1 V).1, skV φ 0 it k1 x1 y1 V) := (by unfold tsF; simp only [Int.toNat_natCast]; rw [if_pos hnd2, if_pos (sz.t (by omega))]); rw [e]; exact ⟨rfl, hS1, fr_⟩)
  · skip
    refine g_iconst k dX9_test_10 ?_
    rw [← hQQ]
    refine g_ireti k rfl dX9_test_11 ?_
    have e : tsF it φ V kx p p2 = (-1, V) := by unfold tsF; rw [if_neg (q4.f (by omega))]
    rw [e]
    exact ⟨rfl, hS, fr0⟩

