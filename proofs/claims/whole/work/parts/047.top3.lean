/-! forget, grow, drop, turn, undo -/
def fgt (φ : Fs) (k : Nat) : Fs := φ.eraseIdx k
theorem ers_at {φ : Fs} {k j : Nat} : (φ.eraseIdx k).getD j (0, 0, 0) = (if j < k then φ.getD j (0, 0, 0) else φ.getD (j + 1) (0, 0, 0)) := by
  simp only [List.getD_eq_getElem?_getD, List.getElem?_eraseIdx]
  split <;> rfl
theorem Rows.cut {φ : Fs} {K F S K2 F2 S2 : Nat → Int} (h : Rows φ K F S) {k : Nat} (hk : k < φ.length) (hc : ∀ j, j < φ.length - 1 → K2 j = cutK K k j ∧ F2 j = cutK F k j ∧ S2 j = cutK S k j) : Rows (fgt φ k) K2 F2 S2 := by
  have el : (fgt φ k).length = φ.length - 1 := List.length_eraseIdx_of_lt hk
  intro j hj
  rw [el] at hj
  obtain ⟨c1, c2, c3⟩ := hc j hj
  unfold cutK at c1 c2 c3
  unfold kd fi se fgt
  rw [ers_at]
  by_cases e : j < k
  · rw [if_pos e] at c1 c2 c3
    rw [if_pos e, c1, c2, c3]
    exact h j (by omega)
  · rw [if_neg e] at c1 c2 c3
    rw [if_neg e, c1, c2, c3]
    exact h (j + 1) (by omega)
set_option maxHeartbeats 600000 in
set_option maxRecDepth 100000 in
theorem c_X9_forget {G : Gx} {h : Hp} {nx x : Nat} {it : Nat} {φ : Fs} {ps : List (Nat × Fs)} {im : Nat → Option (Nat × Fs)} {V : RV} {n : Nat} {T : Nat → Int} {ft : Nat} (hS : SF G h x it φ ps im V n T ft) (hSm : Sm it φ) {p : Int} (rp : -2147483648 ≤ p ∧ p ≤ 2147483647) : Con G yX9_forget cX9_forget 2 (some .int) 3 0 0 [.ref x, vi p] h nx (PI fun z h' => ((hasI φ.length p → z = (φ.length : Int) - 1) ∧ (¬ hasI φ.length p → z = -1)) ∧ SF G h' x it (haveI := Classical.propDecidable (hasI φ.length p); if hasI φ.length p then fgt φ p.toNat else φ) (haveI := Classical.propDecidable (hasI φ.length p); if hasI φ.length p then psh ps (it, φ) else ps) im V n T ft ∧ ∀ q : Nat, (q < x ∨ x + 140 < q) → h' q = h q) := by
  obtain ⟨⟨sd, hx⟩, cF, cM, cP, cI, cV, cK, cR, cO, cW, cS, cZ, cT, cD⟩ := id hS
  have cF : FA G h (x + 1) it φ := cF
  have cP : PA G h (x + 9) ps := cP
  have cV : GV G h (x + 53) V := cV
  have cT : TA G h (x + 133) n T := cT
  have hf := cF.ob
  have hp := cP.ob
  have hv := cV.ob
  have ht := cT.1
  have h28 := hSm.2.1
  refine Con.of v_X9_forget.2.2.2.2.2.1 (Nat.le_of_ble_eq_true rfl) (lv := [(0, .ref x), (1, vi p)]) rfl (fun X k => ?_)
  generalize hQQ : QM G X nx 0 0 _ = QQ
  have fr0 : ∀ q : Nat, (q < x ∨ x + 140 < q) → h q = h q := fun _ _ => rfl
  refine g_aload_n k rfl dX9_forget_0 ?_
  refine g_get k 9 0 (C := RX9) (T := TX9) (N := 15) fl_X9_12 rfl wi_X9 (by decide) rfl hx rfl dX9_forget_1 ?_
  refine g_iload_n k rfl dX9_forget_4 ?_
  refine g_cVi k 0 (As := [vi p]) v_X0_hasFact rfl rfl hf ml_X9_133 (c_X0_hasFact cF hSm rp) (by omega) (by omega) rfl (Nat.le_of_ble_eq_true rfl) rfl dX9_forget_5 (fun r5 h5 p5 => ?_)
  obtain ⟨eh5, p5⟩ := p5
  have eh5 := eh5.symm; subst eh5
  have q5 := p5
  have q5r := q5.r
  refine g_if_ne k (tgt := 13) (by omega) dX9_forget_8 (by decide) (fun c8 => ?_) (fun c8 => ?_)
  · skip
    have hh := q5.t (by omega)
    obtain ⟨k1, ek1, hk1⟩ := nat_of hh
    rw [ek1]
    refine g_aload_n k rfl dX9_forget_13 ?_
    refine g_get k 9 2 (C := RX9) (T := TX9) (N := 15) fl_X9_22 rfl wi_X9 (by decide) rfl hx rfl dX9_forget_14 ?_
    refine g_aload_n k rfl dX9_forget_17 ?_
    refine g_get k 9 0 (C := RX9) (T := TX9) (N := 15) fl_X9_12 rfl wi_X9 (by decide) rfl hx rfl dX9_forget_18 ?_
    refine g_cVv k 2 (As := [.ref (x + 1)]) v_X2_push rfl rfl hp ml_X9_169 (c_X2_push cP cF h28 (by omega)) (by omega) (by omega) rfl (Nat.le_of_ble_eq_true rfl) rfl dX9_forget_21 (fun h21 p21 => ?_)
    obtain ⟨nP, nfr⟩ := p21
    have hx_ : h21 x = some (ob 9 [.ref (x + 1), .ref (x + 5), .ref (x + 9), .ref (x + 43), .ref (x + 52), .ref (x + 53), .ref (x + 56), .ref (x + 59), .ref (x + 61), .ref (x + 68), .ref (x + 130), .ref (x + 132), .ref (x + 133), .ref (x + 135), vi sd]) := (nfr _ (by omega)).trans hx
    have hf_ : h21 (x + 1) = some (ob 0 [vi (it : Int), vi (φ.length : Int), .ref (x + 1 + 1), .ref (x + 1 + 2), .ref (x + 1 + 3)]) := (nfr _ (by omega)).trans hf
    have fr_ : ∀ q : Nat, (q < x ∨ x + 140 < q) → h21 q = h q := fun q hq => (nfr q (by omega)).trans (fr0 q hq)
    have hS1 := hS.sP (ps' := psh ps (it, φ)) nP (fun q g => nfr q (by omega))
    have cF1 : FA G h21 (x + 1) it φ := hS1.2.1
    obtain ⟨K3, F3, Z3, -, k3, f3, z3, hrr⟩ := id cF1
    refine g_aload_n k rfl dX9_forget_24 ?_
    refine g_get k 9 0 (C := RX9) (T := TX9) (N := 15) fl_X9_12 rfl wi_X9 (by decide) rfl hx_ rfl dX9_forget_25 ?_
    refine g_iload_n k rfl dX9_forget_28 ?_
    refine g_cVv k 0 (As := [vi (k1 : Int)]) v_X0_remove rfl rfl hf_ ml_X9_189 (c_X0_remove ⟨hf_, k3, f3, z3⟩ h28 (k1 := k1) hk1) (by omega) (by omega) rfl (Nat.le_of_ble_eq_true rfl) rfl dX9_forget_29 (fun h29 p29 => ?_)
    obtain ⟨⟨K4, F4, Z4, ⟨na, nk, nf, nz2⟩, hcut⟩, nfr3⟩ := p29
    have hx__1 : h29 x = some (ob 9 [.ref (x + 1), .ref (x + 5), .ref (x + 9), .ref (x + 43), .ref (x + 52), .ref (x + 53), .ref (x + 56), .ref (x + 59), .ref (x + 61), .ref (x + 68), .ref (x + 130), .ref (x + 132), .ref (x + 133), .ref (x + 135), vi sd]) := (nfr3 _ (by omega)).trans hx_
    have hf__1 : h29 (x + 1) = some (ob 0 [vi (it : Int), vi ((φ.length - 1 : Nat) : Int), .ref (x + 1 + 1), .ref (x + 1 + 2), .ref (x + 1 + 3)]) := na
    have fr__1 : ∀ q : Nat, (q < x ∨ x + 140 < q) → h29 q = h q := fun q hq => (nfr3 q (by omega)).trans (fr_ q hq)
    have el : (fgt φ k1).length = φ.length - 1 := List.length_eraseIdx_of_lt hk1
    have hS2 := hS1.sF (it' := it) (φ' := fgt φ k1) ⟨K4, F4, Z4, by rw [el]; exact na, nk, nf, nz2, hrr.cut hk1 hcut⟩ (fun q g => nfr3 q (by omega))
    refine g_aload_n k rfl dX9_forget_32 ?_
    refine g_get k 9 0 (C := RX9) (T := TX9) (N := 15) fl_X9_12 rfl wi_X9 (by decide) rfl hx__1 rfl dX9_forget_33 ?_
    refine g_get k 0 1 (C := RX0) (T := TX0) (N := 5) fl_X9_123 rfl wi_X0 (by decide) rfl hf__1 rfl dX9_forget_36 ?_
    rw [← hQQ]
    refine g_ireti k rfl dX9_forget_39 ?_
    rw [if_pos hh, if_pos hh, show p.toNat = k1 by omega]
    exact ⟨⟨fun _ => by omega, fun q => absurd hh q⟩, hS2, fr__1⟩
  · skip
    refine g_iconst k dX9_forget_11 ?_
    rw [← hQQ]
    refine g_ireti k rfl dX9_forget_12 ?_
    have hh := q5.f (by omega)
    rw [if_neg hh, if_neg hh]
    exact ⟨⟨fun q => absurd q hh, fun _ => rfl⟩, hS, fr0⟩

set_option maxHeartbeats 600000 in
set_option maxRecDepth 100000 in
theorem c_X9_grow {G : Gx} {h : Hp} {nx x : Nat} {it : Nat} {φ : Fs} {ps : List (Nat × Fs)} {im : Nat → Option (Nat × Fs)} {V : RV} {n : Nat} {T : Nat → Int} {ft : Nat} (hS : SF G h x it φ ps im V n T ft) (hSm : Sm it φ) : Con G yX9_grow cX9_grow 1 (some .int) 3 0 0 [.ref x] h nx (PI fun z h' => z = (if it < 8 then (it : Int) else -1) ∧ SF G h' x (if it < 8 then it + 1 else it) φ (if it < 8 then psh ps (it, φ) else ps) im V n T ft ∧ ∀ q : Nat, (q < x ∨ x + 140 < q) → h' q = h q) := by
  obtain ⟨⟨sd, hx⟩, cF, cM, cP, cI, cV, cK, cR, cO, cW, cS, cZ, cT, cD⟩ := id hS
  have cF : FA G h (x + 1) it φ := cF
  have cP : PA G h (x + 9) ps := cP
  have cV : GV G h (x + 53) V := cV
  have cT : TA G h (x + 133) n T := cT
  have hf := cF.ob
  have hp := cP.ob
  have hv := cV.ob
  have ht := cT.1
  have h28 := hSm.2.1
  have h8 := hSm.1
  refine Con.of v_X9_grow.2.2.2.2.2.1 (Nat.le_of_ble_eq_true rfl) (lv := [(0, .ref x)]) rfl (fun X k => ?_)
  generalize hQQ : QM G X nx 0 0 _ = QQ
  have fr0 : ∀ q : Nat, (q < x ∨ x + 140 < q) → h q = h q := fun _ _ => rfl
  refine g_aload_n k rfl dX9_grow_0 ?_
  refine g_get k 9 0 (C := RX9) (T := TX9) (N := 15) fl_X9_12 rfl wi_X9 (by decide) rfl hx rfl dX9_grow_1 ?_
  refine g_get k 0 0 (C := RX0) (T := TX0) (N := 5) fl_X9_120 rfl wi_X0 (by decide) rfl hf rfl dX9_grow_4 ?_
  refine g_bipush k rfl dX9_grow_7 ?_
  refine g_icmp_lt k (tgt := 14) (by omega) (by omega) dX9_grow_9 (by decide) (fun c9 => ?_) (fun c9 => ?_)
  · skip
    refine g_aload_n k rfl dX9_grow_14 ?_
    refine g_get k 9 2 (C := RX9) (T := TX9) (N := 15) fl_X9_22 rfl wi_X9 (by decide) rfl hx rfl dX9_grow_15 ?_
    refine g_aload_n k rfl dX9_grow_18 ?_
    refine g_get k 9 0 (C := RX9) (T := TX9) (N := 15) fl_X9_12 rfl wi_X9 (by decide) rfl hx rfl dX9_grow_19 ?_
    refine g_cVv k 2 (As := [.ref (x + 1)]) v_X2_push rfl rfl hp ml_X9_169 (c_X2_push cP cF h28 (by omega)) (by omega) (by omega) rfl (Nat.le_of_ble_eq_true rfl) rfl dX9_grow_22 (fun h22 p22 => ?_)
    obtain ⟨nP, nfr⟩ := p22
    have hx_ : h22 x = some (ob 9 [.ref (x + 1), .ref (x + 5), .ref (x + 9), .ref (x + 43), .ref (x + 52), .ref (x + 53), .ref (x + 56), .ref (x + 59), .ref (x + 61), .ref (x + 68), .ref (x + 130), .ref (x + 132), .ref (x + 133), .ref (x + 135), vi sd]) := (nfr _ (by omega)).trans hx
    have hf_ : h22 (x + 1) = some (ob 0 [vi (it : Int), vi (φ.length : Int), .ref (x + 1 + 1), .ref (x + 1 + 2), .ref (x + 1 + 3)]) := (nfr _ (by omega)).trans hf
    have fr_ : ∀ q : Nat, (q < x ∨ x + 140 < q) → h22 q = h q := fun q hq => (nfr q (by omega)).trans (fr0 q hq)
    have hS1 := hS.sP (ps' := psh ps (it, φ)) nP (fun q g => nfr q (by omega))
    have cF1 : FA G h22 (x + 1) it φ := hS1.2.1
    obtain ⟨K3, F3, Z3, -, k3, f3, z3, hrr⟩ := id cF1
    refine g_aload_n k rfl dX9_grow_25 ?_
    refine g_get k 9 0 (C := RX9) (T := TX9) (N := 15) fl_X9_12 rfl wi_X9 (by decide) rfl hx_ rfl dX9_grow_26 ?_
    refine g_dup k rfl dX9_grow_29 ?_
    refine g_get k 0 0 (C := RX0) (T := TX0) (N := 5) fl_X9_120 rfl wi_X0 (by decide) rfl hf_ rfl dX9_grow_30 ?_
    refine g_iconst k dX9_grow_33 ?_
    refine g_iadd k dX9_grow_34 ?_
    refine g_put k 0 0 (C := RX0) (T := TX0) (N := 5) fl_X9_120 rfl wi_X0 tyX0 tyX0_ok nmX0 (by decide) rfl rfl rfl rfl hf_ (Nat.le_of_ble_eq_true rfl) (fs2 := [vi ((it : Int) + 1), vi (φ.length : Int), .ref (x + 1 + 1), .ref (x + 1 + 2), .ref (x + 1 + 3)]) rfl rfl dX9_grow_35 (fun h35 eh35 => ?_)
    have hx__1 : h35 x = some (ob 9 [.ref (x + 1), .ref (x + 5), .ref (x + 9), .ref (x + 43), .ref (x + 52), .ref (x + 53), .ref (x + 56), .ref (x + 59), .ref (x + 61), .ref (x + 68), .ref (x + 130), .ref (x + 132), .ref (x + 133), .ref (x + 135), vi sd]) := (congrFun eh35 _).trans ((hup_n (by omega)).trans hx_)
    have hf__1 : h35 (x + 1) = some (ob 0 [vi ((it : Int) + 1), vi (φ.length : Int), .ref (x + 1 + 1), .ref (x + 1 + 2), .ref (x + 1 + 3)]) := (congrFun eh35 _).trans hup_s
    have fr__1 : ∀ q : Nat, (q < x ∨ x + 140 < q) → h35 q = h q := fun q hq => (congrFun eh35 q).trans ((hup_n (by omega)).trans (fr_ q hq))
    refine g_aload_n k rfl dX9_grow_38 ?_
    refine g_get k 9 0 (C := RX9) (T := TX9) (N := 15) fl_X9_12 rfl wi_X9 (by decide) rfl hx__1 rfl dX9_grow_39 ?_
    refine g_get k 0 0 (C := RX0) (T := TX0) (N := 5) fl_X9_120 rfl wi_X0 (by decide) rfl hf__1 rfl dX9_grow_42 ?_
    refine g_iconst k dX9_grow_45 ?_
    refine g_isub k dX9_grow_46 ?_
    rw [← hQQ]
    refine g_ireti k rfl dX9_grow_47 ?_
    rw [if_pos (by omega), if_pos (by omega), if_pos (by omega)]
    have hS2 := hS1.sF (h' := h35) (it' := it + 1) (φ' := φ) ⟨K3, F3, Z3, hf__1, (congrFun eh35 _).trans ((hup_n (by omega)).trans k3), (congrFun eh35 _).trans ((hup_n (by omega)).trans f3), (congrFun eh35 _).trans ((hup_n (by omega)).trans z3), hrr⟩ (fun q g => (congrFun eh35 q).trans (hup_n (by omega)))
    exact ⟨by omega, hS2, fr__1⟩
  · skip
    refine g_iconst k dX9_grow_12 ?_
    rw [← hQQ]
    refine g_ireti k rfl dX9_grow_13 ?_
    rw [if_neg (by omega), if_neg (by omega), if_neg (by omega)]
    exact ⟨rfl, hS, fr0⟩

set_option maxHeartbeats 600000 in
set_option maxRecDepth 100000 in
theorem c_X9_drop {G : Gx} {h : Hp} {nx x : Nat} {it : Nat} {φ : Fs} {ps : List (Nat × Fs)} {im : Nat → Option (Nat × Fs)} {V : RV} {n : Nat} {T : Nat → Int} {ft : Nat} (hS : SF G h x it φ ps im V n T ft) (hSm : Sm it φ) {p : Int} (rp : -2147483648 ≤ p ∧ p ≤ 2147483647) : Con G yX9_drop cX9_drop 2 (some .int) 3 0 0 [.ref x, vi p] h nx (PI fun z h' => ((hasI it p → z = (it : Int) - 1) ∧ (¬ hasI it p → z = -1)) ∧ SF G h' x (haveI := Classical.propDecidable (hasI it p); if hasI it p then it - 1 else it) (haveI := Classical.propDecidable (hasI it p); if hasI it p then drp p.toNat φ else φ) (haveI := Classical.propDecidable (hasI it p); if hasI it p then psh ps (it, φ) else ps) im V n T ft ∧ ∀ q : Nat, (q < x ∨ x + 140 < q) → h' q = h q) := by
  obtain ⟨⟨sd, hx⟩, cF, cM, cP, cI, cV, cK, cR, cO, cW, cS, cZ, cT, cD⟩ := id hS
  have cF : FA G h (x + 1) it φ := cF
  have cP : PA G h (x + 9) ps := cP
  have cV : GV G h (x + 53) V := cV
  have cT : TA G h (x + 133) n T := cT
  have hf := cF.ob
  have hp := cP.ob
  have hv := cV.ob
  have ht := cT.1
  have h28 := hSm.2.1
  refine Con.of v_X9_drop.2.2.2.2.2.1 (Nat.le_of_ble_eq_true rfl) (lv := [(0, .ref x), (1, vi p)]) rfl (fun X k => ?_)
  generalize hQQ : QM G X nx 0 0 _ = QQ
  have fr0 : ∀ q : Nat, (q < x ∨ x + 140 < q) → h q = h q := fun _ _ => rfl
  refine g_aload_n k rfl dX9_drop_0 ?_
  refine g_get k 9 0 (C := RX9) (T := TX9) (N := 15) fl_X9_12 rfl wi_X9 (by decide) rfl hx rfl dX9_drop_1 ?_
  refine g_iload_n k rfl dX9_drop_4 ?_
  refine g_cVi k 0 (As := [vi p]) v_X0_hasItem rfl rfl hf ml_X9_192 (c_X0_hasItem cF hSm rp) (by omega) (by omega) rfl (Nat.le_of_ble_eq_true rfl) rfl dX9_drop_5 (fun r5 h5 p5 => ?_)
  obtain ⟨eh5, p5⟩ := p5
  have eh5 := eh5.symm; subst eh5
  have q5 := p5
  have q5r := q5.r
  refine g_if_ne k (tgt := 13) (by omega) dX9_drop_8 (by decide) (fun c8 => ?_) (fun c8 => ?_)
  · skip
    have hh := q5.t (by omega)
    obtain ⟨k1, ek1, hk1⟩ := nat_of hh
    rw [ek1]
    refine g_aload_n k rfl dX9_drop_13 ?_
    refine g_get k 9 2 (C := RX9) (T := TX9) (N := 15) fl_X9_22 rfl wi_X9 (by decide) rfl hx rfl dX9_drop_14 ?_
    refine g_aload_n k rfl dX9_drop_17 ?_
    refine g_get k 9 0 (C := RX9) (T := TX9) (N := 15) fl_X9_12 rfl wi_X9 (by decide) rfl hx rfl dX9_drop_18 ?_
    refine g_cVv k 2 (As := [.ref (x + 1)]) v_X2_push rfl rfl hp ml_X9_169 (c_X2_push cP cF h28 (by omega)) (by omega) (by omega) rfl (Nat.le_of_ble_eq_true rfl) rfl dX9_drop_21 (fun h21 p21 => ?_)
    obtain ⟨nP, nfr⟩ := p21
    have hx_ : h21 x = some (ob 9 [.ref (x + 1), .ref (x + 5), .ref (x + 9), .ref (x + 43), .ref (x + 52), .ref (x + 53), .ref (x + 56), .ref (x + 59), .ref (x + 61), .ref (x + 68), .ref (x + 130), .ref (x + 132), .ref (x + 133), .ref (x + 135), vi sd]) := (nfr _ (by omega)).trans hx
    have hf_ : h21 (x + 1) = some (ob 0 [vi (it : Int), vi (φ.length : Int), .ref (x + 1 + 1), .ref (x + 1 + 2), .ref (x + 1 + 3)]) := (nfr _ (by omega)).trans hf
    have fr_ : ∀ q : Nat, (q < x ∨ x + 140 < q) → h21 q = h q := fun q hq => (nfr q (by omega)).trans (fr0 q hq)
    have hS1 := hS.sP (ps' := psh ps (it, φ)) nP (fun q g => nfr q (by omega))
    have cF1 : FA G h21 (x + 1) it φ := hS1.2.1
    refine g_aload_n k rfl dX9_drop_24 ?_
    refine g_get k 9 0 (C := RX9) (T := TX9) (N := 15) fl_X9_12 rfl wi_X9 (by decide) rfl hx_ rfl dX9_drop_25 ?_
    refine g_iload_n k rfl dX9_drop_28 ?_
    refine g_cVv k 0 (As := [vi (k1 : Int)]) v_X0_removeItem rfl rfl hf_ ml_X9_278 (c_X0_removeItem cF1 hSm (i1 := k1) hk1) (by omega) (by omega) rfl (Nat.le_of_ble_eq_true rfl) rfl dX9_drop_29 (fun h29 p29 => ?_)
    obtain ⟨nF, nfr3⟩ := p29
    have hx__1 : h29 x = some (ob 9 [.ref (x + 1), .ref (x + 5), .ref (x + 9), .ref (x + 43), .ref (x + 52), .ref (x + 53), .ref (x + 56), .ref (x + 59), .ref (x + 61), .ref (x + 68), .ref (x + 130), .ref (x + 132), .ref (x + 133), .ref (x + 135), vi sd]) := (nfr3 _ (by omega)).trans hx_
    have hf__1 : h29 (x + 1) = some (ob 0 [vi ((it - 1 : Nat) : Int), vi ((drp k1 φ).length : Int), .ref (x + 1 + 1), .ref (x + 1 + 2), .ref (x + 1 + 3)]) := nF.ob
    have fr__1 : ∀ q : Nat, (q < x ∨ x + 140 < q) → h29 q = h q := fun q hq => (nfr3 q (by omega)).trans (fr_ q hq)
    have hS2 := hS1.sF (it' := it - 1) (φ' := drp k1 φ) nF (fun q g => nfr3 q (by omega))
    refine g_aload_n k rfl dX9_drop_32 ?_
    refine g_get k 9 0 (C := RX9) (T := TX9) (N := 15) fl_X9_12 rfl wi_X9 (by decide) rfl hx__1 rfl dX9_drop_33 ?_
    refine g_get k 0 0 (C := RX0) (T := TX0) (N := 5) fl_X9_120 rfl wi_X0 (by decide) rfl hf__1 rfl dX9_drop_36 ?_
    rw [← hQQ]
    refine g_ireti k rfl dX9_drop_39 ?_
    rw [if_pos hh, if_pos hh, if_pos hh, show p.toNat = k1 by omega]
    exact ⟨⟨fun _ => by omega, fun q => absurd hh q⟩, hS2, fr__1⟩
  · skip
    refine g_iconst k dX9_drop_11 ?_
    rw [← hQQ]
    refine g_ireti k rfl dX9_drop_12 ?_
    have hh := q5.f (by omega)
    rw [if_neg hh, if_neg hh, if_neg hh]
    exact ⟨⟨fun q => absurd q hh, fun _ => rfl⟩, hS, fr0⟩

set_option maxHeartbeats 600000 in
set_option maxRecDepth 100000 in
theorem c_X9_keepMarkIf {G : Gx} {h : Hp} {nx x : Nat} {it : Nat} {φ : Fs} {ps : List (Nat × Fs)} {im : Nat → Option (Nat × Fs)} {V : RV} {n : Nat} {T : Nat → Int} {ft : Nat} (hS : SF G h x it φ ps im V n T ft) {i0 : Nat} {φ0 : Fs} (hM0 : FA G h (x + 5) i0 φ0) (hl0 : φ0.length ≤ 28) {P : Prop} {z0 : Int} (hz0 : bz P z0) : Con G yX9_keepMarkIf cX9_keepMarkIf 2 none 3 0 0 [.ref x, vi z0] h nx (PV fun h' => SF G h' x it φ (haveI := Classical.propDecidable P; if P then psh ps (i0, φ0) else ps) im V n T ft ∧ ∀ q : Nat, (q < x ∨ x + 140 < q) → h' q = h q) := by
  obtain ⟨⟨sd, hx⟩, cF, cM, cP, cI, cV, cK, cR, cO, cW, cS, cZ, cT, cD⟩ := id hS
  have cF : FA G h (x + 1) it φ := cF
  have cP : PA G h (x + 9) ps := cP
  have cV : GV G h (x + 53) V := cV
  have cT : TA G h (x + 133) n T := cT
  have hf := cF.ob
  have hp := cP.ob
  have hv := cV.ob
  have ht := cT.1
  have hzr := hz0.r
  refine Con.of v_X9_keepMarkIf.2.2.2.2.2.1 (Nat.le_of_ble_eq_true rfl) (lv := [(0, .ref x), (1, vi z0)]) rfl (fun X k => ?_)
  generalize hQQ : QM G X nx 0 0 _ = QQ
  have fr0 : ∀ q : Nat, (q < x ∨ x + 140 < q) → h q = h q := fun _ _ => rfl
  refine g_iload_n k rfl dX9_keepMarkIf_0 ?_
  refine g_if_eq k (tgt := 15) (by omega) dX9_keepMarkIf_1 (by decide) (fun c1 => ?_) (fun c1 => ?_)
  · skip
    rw [← hQQ]
    refine g_retv k rfl dX9_keepMarkIf_15 ?_
    rw [if_neg (hz0.f (by omega))]
    exact ⟨hS, fr0⟩
  · skip
    refine g_aload_n k rfl dX9_keepMarkIf_4 ?_
    refine g_get k 9 2 (C := RX9) (T := TX9) (N := 15) fl_X9_22 rfl wi_X9 (by decide) rfl hx rfl dX9_keepMarkIf_5 ?_
    refine g_aload_n k rfl dX9_keepMarkIf_8 ?_
    refine g_get k 9 1 (C := RX9) (T := TX9) (N := 15) fl_X9_16 rfl wi_X9 (by decide) rfl hx rfl dX9_keepMarkIf_9 ?_
    refine g_cVv k 2 (As := [.ref (x + 5)]) v_X2_push rfl rfl hp ml_X9_169 (c_X2_push cP hM0 hl0 (by omega)) (by omega) (by omega) rfl (Nat.le_of_ble_eq_true rfl) rfl dX9_keepMarkIf_12 (fun h12 p12 => ?_)
    obtain ⟨nP, nfr⟩ := p12
    have hx_ : h12 x = some (ob 9 [.ref (x + 1), .ref (x + 5), .ref (x + 9), .ref (x + 43), .ref (x + 52), .ref (x + 53), .ref (x + 56), .ref (x + 59), .ref (x + 61), .ref (x + 68), .ref (x + 130), .ref (x + 132), .ref (x + 133), .ref (x + 135), vi sd]) := (nfr _ (by omega)).trans hx
    have fr_ : ∀ q : Nat, (q < x ∨ x + 140 < q) → h12 q = h q := fun q hq => (nfr q (by omega)).trans (fr0 q hq)
    rw [← hQQ]
    refine g_retv k rfl dX9_keepMarkIf_15 ?_
    rw [if_pos (hz0.t (by omega))]
    exact ⟨hS.sP (ps' := psh ps (i0, φ0)) nP (fun q g => nfr q (by omega)), fr_⟩

set_option maxHeartbeats 600000 in
set_option maxRecDepth 100000 in
theorem c_X9_turn {G : Gx} {h : Hp} {nx x : Nat} {it : Nat} {φ : Fs} {ps : List (Nat × Fs)} {im : Nat → Option (Nat × Fs)} {V : RV} {n : Nat} {T : Nat → Int} {ft : Nat} (hS : SF G h x it φ ps im V n T ft) (hSm : Sm it φ) : Con G yX9_turn cX9_turn 2 (some .int) 4 0 0 [.ref x] h nx (PI fun z h' => z = (nbF φ φ.length : Nat) ∧ SF G h' x it (trn φ) (if 0 < nbF φ φ.length then psh ps (it, φ) else ps) im V n T ft ∧ ∀ q : Nat, (q < x ∨ x + 140 < q) → h' q = h q) := by
  obtain ⟨⟨sd, hx⟩, cF, cM, cP, cI, cV, cK, cR, cO, cW, cS, cZ, cT, cD⟩ := id hS
  have cF : FA G h (x + 1) it φ := cF
  have cP : PA G h (x + 9) ps := cP
  have cV : GV G h (x + 53) V := cV
  have cT : TA G h (x + 133) n T := cT
  have hf := cF.ob
  have hp := cP.ob
  have hv := cV.ob
  have ht := cT.1
  have h28 := hSm.2.1
  have hnb := nbF_le φ φ.length
  refine Con.of v_X9_turn.2.2.2.2.2.1 (Nat.le_of_ble_eq_true rfl) (lv := [(0, .ref x)]) rfl (fun X k => ?_)
  generalize hQQ : QM G X nx 0 0 _ = QQ
  have fr0 : ∀ q : Nat, (q < x ∨ x + 140 < q) → h q = h q := fun _ _ => rfl
  refine g_aload_n k rfl dX9_turn_0 ?_
  obtain ⟨im0, mm0, Km, Fm, Sm0, hFM⟩ := cM
  refine g_get k 9 1 (C := RX9) (T := TX9) (N := 15) fl_X9_16 rfl wi_X9 (by decide) rfl hx rfl dX9_turn_1 ?_
  refine g_aload_n k rfl dX9_turn_4 ?_
  refine g_get k 9 0 (C := RX9) (T := TX9) (N := 15) fl_X9_12 rfl wi_X9 (by decide) rfl hx rfl dX9_turn_5 ?_
  refine g_cVv k 0 (As := [.ref (x + 1)]) v_X0_copyFrom rfl rfl hFM.1 ml_X9_113 (c_X0_copyFrom hFM cF h28 (by omega)) (by omega) (by omega) rfl (Nat.le_of_ble_eq_true rfl) rfl dX9_turn_8 (fun h8 p8 => ?_)
  obtain ⟨nM, nfr⟩ := p8
  have hx_ : h8 x = some (ob 9 [.ref (x + 1), .ref (x + 5), .ref (x + 9), .ref (x + 43), .ref (x + 52), .ref (x + 53), .ref (x + 56), .ref (x + 59), .ref (x + 61), .ref (x + 68), .ref (x + 130), .ref (x + 132), .ref (x + 133), .ref (x + 135), vi sd]) := (nfr _ (by omega)).trans hx
  have hf_ : h8 (x + 1) = some (ob 0 [vi (it : Int), vi (φ.length : Int), .ref (x + 1 + 1), .ref (x + 1 + 2), .ref (x + 1 + 3)]) := (nfr _ (by omega)).trans hf
  have hp_ : h8 (x + 9) = some (ob 2 [vi (ps.length : Int), .ref (x + 9 + 1)]) := (nfr _ (by omega)).trans hp
  have fr_ : ∀ q : Nat, (q < x ∨ x + 140 < q) → h8 q = h q := fun q hq => (nfr q (by omega)).trans (fr0 q hq)
  have hS1 := hS.sM (h' := h8) (by obtain ⟨K, F, S, hq⟩ := nM.fc; exact ⟨_, _, K, F, S, hq⟩) (fun q g => nfr q (by omega))
  have cF1 : FA G h8 (x + 1) it φ := hS1.2.1
  refine g_aload_n k rfl dX9_turn_11 ?_
  refine g_get k 9 0 (C := RX9) (T := TX9) (N := 15) fl_X9_12 rfl wi_X9 (by decide) rfl hx_ rfl dX9_turn_12 ?_
  refine g_cVi k 0 (As := []) v_X0_turnBefores rfl rfl hf_ ml_X9_281 (c_X0_turnBefores cF1 hSm) (by omega) (by omega) rfl (Nat.le_of_ble_eq_true rfl) rfl dX9_turn_15 (fun r15 h15 p15 => ?_)
  obtain ⟨p15e, nF, nfr2⟩ := p15
  subst p15e
  have hx__1 : h15 x = some (ob 9 [.ref (x + 1), .ref (x + 5), .ref (x + 9), .ref (x + 43), .ref (x + 52), .ref (x + 53), .ref (x + 56), .ref (x + 59), .ref (x + 61), .ref (x + 68), .ref (x + 130), .ref (x + 132), .ref (x + 133), .ref (x + 135), vi sd]) := (nfr2 _ (by omega)).trans hx_
  have hp__1 : h15 (x + 9) = some (ob 2 [vi (ps.length : Int), .ref (x + 9 + 1)]) := (nfr2 _ (by omega)).trans hp_
  have fr__1 : ∀ q : Nat, (q < x ∨ x + 140 < q) → h15 q = h q := fun q hq => (nfr2 q (by omega)).trans (fr_ q hq)
  have hS2 := hS1.sF (it' := it) (φ' := trn φ) nF (fun q g => nfr2 q (by omega))
  refine g_istore_n k (lv2 := [(0, .ref x), (1, vi (nbF φ φ.length : Int))]) (by decide) rfl rfl dX9_turn_18 ?_
  have K29 : ∀ (zz : Int) (hzz : bz (0 < nbF φ φ.length) zz), Go G X 2 QQ 0 0 nx 29 [(0, .ref x), (1, vi (nbF φ φ.length : Int))] [vi zz, .ref x] h15 := by
    intro zz hzz
    refine g_cVv k 9 (As := [vi zz]) v_X9_keepMarkIf rfl rfl hx__1 ml_X9_274 (c_X9_keepMarkIf hS2 (nM.keep (fun q g1 g2 => nfr2 q (by omega))) h28 hzz) (by omega) (by omega) rfl (Nat.le_of_ble_eq_true rfl) rfl dX9_turn_29 (fun h29 p29 => ?_)
    obtain ⟨nS, nfr4⟩ := p29
    have fr__2 : ∀ q : Nat, (q < x ∨ x + 140 < q) → h29 q = h q := fun q hq => (nfr4 q (by omega)).trans (fr__1 q hq)
    refine g_iload_n k rfl dX9_turn_32 ?_
    rw [← hQQ]
    refine g_ireti k rfl dX9_turn_33 ?_
    refine ⟨rfl, ?_, fr__2⟩
    by_cases c : 0 < nbF φ φ.length
    · rw [if_pos c] at nS ⊢; exact nS
    · rw [if_neg c] at nS ⊢; exact nS
  refine g_aload_n k rfl dX9_turn_19 ?_
  refine g_iload_n k rfl dX9_turn_20 ?_
  refine g_if_le k (tgt := 28) (by omega) dX9_turn_21 (by decide) (fun c21 => ?_) (fun c21 => ?_)
  · skip
    refine g_iconst k dX9_turn_28 ?_
    exact K29 _ (bz.n (by omega))
  · skip
    refine g_iconst k dX9_turn_24 ?_
    refine g_goto k (tgt := 29) dX9_turn_25 (by decide) ?_
    exact K29 _ (bz.y (by omega))

set_option maxHeartbeats 600000 in
set_option maxRecDepth 100000 in
theorem c_X9_undo {G : Gx} {h : Hp} {nx x : Nat} {it : Nat} {φ : Fs} {ps : List (Nat × Fs)} {im : Nat → Option (Nat × Fs)} {V : RV} {n : Nat} {T : Nat → Int} {ft : Nat} (hS : SF G h x it φ ps im V n T ft) (hps : ps.length ≤ 8) : Con G yX9_undo cX9_undo 1 (some .int) 3 0 0 [.ref x] h nx (PI fun z h' => z = (if ps.length = 0 then -1 else (ps.length : Int) - 1) ∧ SF G h' x (if ps.length = 0 then it else (ps.getLastD (0, [])).1) (if ps.length = 0 then φ else (ps.getLastD (0, [])).2) ps.dropLast im V n T ft ∧ ∀ q : Nat, (q < x ∨ x + 140 < q) → h' q = h q) := by
  obtain ⟨⟨sd, hx⟩, cF, cM, cP, cI, cV, cK, cR, cO, cW, cS, cZ, cT, cD⟩ := id hS
  have cF : FA G h (x + 1) it φ := cF
  have cP : PA G h (x + 9) ps := cP
  have cV : GV G h (x + 53) V := cV
  have cT : TA G h (x + 133) n T := cT
  have hf := cF.ob
  have hp := cP.ob
  have hv := cV.ob
  have ht := cT.1
  obtain ⟨Kc, Fc, Sc, hFC⟩ := cF.fc
  refine Con.of v_X9_undo.2.2.2.2.2.1 (Nat.le_of_ble_eq_true rfl) (lv := [(0, .ref x)]) rfl (fun X k => ?_)
  generalize hQQ : QM G X nx 0 0 _ = QQ
  have fr0 : ∀ q : Nat, (q < x ∨ x + 140 < q) → h q = h q := fun _ _ => rfl
  refine g_aload_n k rfl dX9_undo_0 ?_
  refine g_get k 9 2 (C := RX9) (T := TX9) (N := 15) fl_X9_22 rfl wi_X9 (by decide) rfl hx rfl dX9_undo_1 ?_
  refine g_get k 2 0 (C := RX2) (T := TX2) (N := 2) fl_X9_117 rfl wi_X2 (by decide) rfl hp rfl dX9_undo_4 ?_
  refine g_if_ne k (tgt := 12) (by omega) dX9_undo_7 (by decide) (fun c7 => ?_) (fun c7 => ?_)
  · skip
    have hne : ps ≠ [] := fun e => by rw [e] at c7; simp at c7
    have hPL : PA G h (x + 9) (ps.dropLast ++ [ps.getLastD (0, [])]) := by rw [show ps.dropLast ++ [ps.getLastD (0, [])] = ps by rw [List.getLastD_eq_getLast?, List.getLast?_eq_some_getLast hne]; exact List.dropLast_concat_getLast hne]; exact cP
    refine g_aload_n k rfl dX9_undo_12 ?_
    refine g_get k 9 2 (C := RX9) (T := TX9) (N := 15) fl_X9_22 rfl wi_X9 (by decide) rfl hx rfl dX9_undo_13 ?_
    refine g_aload_n k rfl dX9_undo_16 ?_
    refine g_get k 9 0 (C := RX9) (T := TX9) (N := 15) fl_X9_12 rfl wi_X9 (by decide) rfl hx rfl dX9_undo_17 ?_
    refine g_cVv k 2 (As := [.ref (x + 1)]) v_X2_popInto rfl rfl hp ml_X9_294 (c_X2_popInto (ps := ps.dropLast) (x := ps.getLastD (0, [])) hPL hFC (by omega)) (by omega) (by omega) rfl (Nat.le_of_ble_eq_true rfl) rfl dX9_undo_20 (fun h20 p20 => ?_)
    obtain ⟨nP, nF, nfr⟩ := p20
    have nfr9 : ∀ q : Nat, ((q < x + 9 ∨ x + 9 + 33 < q) ∧ (q < x + 1 ∨ x + 1 + 3 < q)) → h20 q = h q := fun q hq => nfr q hq.1 hq.2
    have hx_ : h20 x = some (ob 9 [.ref (x + 1), .ref (x + 5), .ref (x + 9), .ref (x + 43), .ref (x + 52), .ref (x + 53), .ref (x + 56), .ref (x + 59), .ref (x + 61), .ref (x + 68), .ref (x + 130), .ref (x + 132), .ref (x + 133), .ref (x + 135), vi sd]) := (nfr9 _ (by omega)).trans hx
    have hp_ : h20 (x + 9) = some (ob 2 [vi (ps.dropLast.length : Int), .ref (x + 9 + 1)]) := nP.ob
    have fr_ : ∀ q : Nat, (q < x ∨ x + 140 < q) → h20 q = h q := fun q hq => (nfr9 q (by omega)).trans (fr0 q hq)
    refine g_aload_n k rfl dX9_undo_23 ?_
    refine g_get k 9 2 (C := RX9) (T := TX9) (N := 15) fl_X9_22 rfl wi_X9 (by decide) rfl hx_ rfl dX9_undo_24 ?_
    refine g_get k 2 0 (C := RX2) (T := TX2) (N := 2) fl_X9_117 rfl wi_X2 (by decide) rfl hp_ rfl dX9_undo_27 ?_
    rw [← hQQ]
    refine g_ireti k rfl dX9_undo_30 ?_
    have hl : ps.length ≠ 0 := fun e => hne (List.eq_nil_of_length_eq_zero e)
    rw [if_neg hl, if_neg hl, if_neg hl]
    have el : ps.dropLast.length = ps.length - 1 := List.length_dropLast
    refine ⟨by omega, ?_, fr_⟩
    have hS1 := hS.sP (h' := (fun q => if x + 1 ≤ q ∧ q ≤ x + 4 then h q else h20 q)) (ps' := ps.dropLast) (PA.keep nP (fun q g1 g2 => if_neg (by omega))) (fun q g => by by_cases c : x + 1 ≤ q ∧ q ≤ x + 4; exact if_pos c; exact (if_neg c).trans (nfr q (by omega) (by omega)))
    exact hS1.sF (it' := (ps.getLastD (0, [])).1) (φ' := (ps.getLastD (0, [])).2) nF (fun q g => (if_neg (by omega)).symm)
  · skip
    refine g_iconst k dX9_undo_10 ?_
    rw [← hQQ]
    refine g_ireti k rfl dX9_undo_11 ?_
    have e : ps = [] := List.eq_nil_of_length_eq_zero (by omega)
    subst e
    exact ⟨rfl, hS, fr0⟩

