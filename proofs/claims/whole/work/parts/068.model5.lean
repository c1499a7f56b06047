/-! the reference: forget, image, restore, undo, grow, turn, drop, fact -/
set_option maxHeartbeats 600000 in
set_option maxRecDepth 100000 in
theorem c1_X10_items {G : Gx} {h : Hp} {nx : Nat} {m : Nat} {s : Nat → Int} (hm : h m = some (mo m s)) {N : Nat → Int} (hn : h (m + 2) = some (ai G 86 N)) {i1 : Nat} (hN : N 0 = (i1 : Int)) : Con G yX10_items cX10_items 1 (some .int) 1 0 0 [.ref m] h nx (PI fun z h' => h' = h ∧ z = (i1 : Int)) := by
  refine Con.of v_X10_items.2.2.2.2.2.1 (Nat.le_of_ble_eq_true rfl) (lv := [(0, .ref m)]) rfl (fun X k => ?_)
  generalize hQQ : QM G X nx 0 0 _ = QQ
  refine g_aload_n k rfl dX10_items_0 ?_
  refine g_get k 10 10 (C := RX10) (T := TX10) (N := 38) fl_X10_74 rfl wi_X10 (by decide) rfl hm rfl dX10_items_1 ?_
  refine g_iconst k dX10_items_4 ?_
  refine g_iald k 0 hn (by omega) (by omega) (by decide) dX10_items_5 ?_
  rw [show N 0 = (i1 : Int) from hN]
  rw [← hQQ]
  refine g_ireti k rfl dX10_items_6 ?_
  exact ⟨rfl, rfl⟩

set_option maxHeartbeats 600000 in
set_option maxRecDepth 100000 in
theorem c1_X10_facts {G : Gx} {h : Hp} {nx : Nat} {m : Nat} {s : Nat → Int} (hm : h m = some (mo m s)) {N : Nat → Int} (hn : h (m + 2) = some (ai G 86 N)) {l1 : Nat} (hN : N 1 = (l1 : Int)) : Con G yX10_facts cX10_facts 1 (some .int) 1 0 0 [.ref m] h nx (PI fun z h' => h' = h ∧ z = (l1 : Int)) := by
  refine Con.of v_X10_facts.2.2.2.2.2.1 (Nat.le_of_ble_eq_true rfl) (lv := [(0, .ref m)]) rfl (fun X k => ?_)
  generalize hQQ : QM G X nx 0 0 _ = QQ
  refine g_aload_n k rfl dX10_facts_0 ?_
  refine g_get k 10 10 (C := RX10) (T := TX10) (N := 38) fl_X10_74 rfl wi_X10 (by decide) rfl hm rfl dX10_facts_1 ?_
  refine g_iconst k dX10_facts_4 ?_
  refine g_iald k 1 hn (by omega) (by omega) (by decide) dX10_facts_5 ?_
  rw [show N 1 = (l1 : Int) from hN]
  rw [← hQQ]
  refine g_ireti k rfl dX10_facts_6 ?_
  exact ⟨rfl, rfl⟩

set_option maxHeartbeats 600000 in
set_option maxRecDepth 100000 in
theorem c_X10_forget {G : Gx} {h : Hp} {nx m : Nat} {it : Nat} {φ : Fs} {ps : List (Nat × Fs)} {im : Nat → Option (Nat × Fs)} {V : RV} {n : Nat} {T : Nat → Int} {ft : Nat} (hM : MS G h m it φ ps im V n T ft) (hS : Sm it φ) (hps : PsO ps) {p : Int} (rp : -2147483648 ≤ p ∧ p ≤ 2147483647) : Con G yX10_forget cX10_forget 2 (some .int) 3 0 0 [.ref m, vi p] h nx (PI fun z h' => ((hasI φ.length p → z = (φ.length : Int) - 1) ∧ (¬ hasI φ.length p → z = -1)) ∧ MT G h' m 0 it (haveI := Classical.propDecidable (hasI φ.length p); if hasI φ.length p then fgt φ p.toNat else φ) (haveI := Classical.propDecidable (hasI φ.length p); if hasI φ.length p then psh ps (it, φ) else ps) im V n T ft ∧ ∀ q : Nat, (q < m ∨ m + 17 < q) → h' q = h q) := by
  obtain ⟨th, s, ⟨hm, cq1, cq2, cq3, cq4, cq5, cq6, cq7, cq8, cq9, cq10, cq11, cq12, cq13, cq14, cq15, cq16, cq17⟩, hsc, hth⟩ := hM
  obtain ⟨z1, z6, z9, z14, z17, z15, z16⟩ := id hsc
  obtain ⟨N, hn, hR⟩ := id cq2
  have h28 := hS.2.1
  refine Con.of v_X10_forget.2.2.2.2.2.1 (Nat.le_of_ble_eq_true rfl) (lv := [(0, .ref m), (1, vi p)]) rfl (fun X k => ?_)
  generalize hQQ : QM G X nx 0 0 _ = QQ
  have fr0 : ∀ q : Nat, (q ≠ m ∧ q ≠ m + 2 ∧ q ≠ m + 5) → h q = h q := fun _ _ => rfl
  refine g_aload_n k rfl dX10_forget_0 ?_
  refine g_iconst k dX10_forget_1 ?_
  refine g_put k 10 0 (C := RX10) (T := TX10) (N := 38) fl_X10_1 rfl wi_X10 tyX10 tyX10_ok nmX10 (by decide) rfl rfl rfl rfl hm (Nat.le_of_ble_eq_true rfl) (fs2 := mol m (fu s 0 0)) rfl rfl dX10_forget_2 (fun h2 eh2 => ?_)
  have hm_ : h2 m = some (mo m (fu s 0 0)) := (congrFun eh2 _).trans hup_s
  have hn_ : h2 (m + 2) = some (ai G 86 N) := (congrFun eh2 _).trans ((hup_n (by omega)).trans hn)
  have fr_ : ∀ q : Nat, (q ≠ m ∧ q ≠ m + 2 ∧ q ≠ m + 5) → h2 q = h q := fun q hq => (congrFun eh2 q).trans ((hup_n (by omega)).trans (fr0 q hq))
  refine g_iload_n k rfl dX10_forget_5 ?_
  refine g_iconst k dX10_forget_6 ?_
  refine g_aload_n k rfl dX10_forget_7 ?_
  refine g_cVi k 10 (As := []) v_X10_facts rfl rfl hm_ ml_X10_237 (c_X10_facts hm_ hn_ hR hS) (by omega) (by omega) rfl (Nat.le_of_ble_eq_true rfl) rfl dX10_forget_8 (fun r8 h8 p8 => ?_)
  obtain ⟨eh8, p8⟩ := p8
  have eh8 := eh8.symm; subst eh8
  subst p8
  refine g_iconst k dX10_forget_11 ?_
  refine g_isub k dX10_forget_12 ?_
  refine g_cSi k (As := [vi p, vi 0, vi ((φ.length : Int) - 1)]) v_X10_isIn ml_X10_224 (c_X10_isIn rp (by omega) (by omega)) (by omega) (by omega) rfl (Nat.le_of_ble_eq_true rfl) rfl dX10_forget_13 (fun r13 h13 p13 => ?_)
  obtain ⟨eh13, p13⟩ := p13
  have eh13 := eh13.symm; subst eh13
  have q13 := p13
  have q13r := q13.r
  refine g_if_ne k (tgt := 21) (by omega) dX10_forget_16 (by decide) (fun c16 => ?_) (fun c16 => ?_)
  · skip
    have hh : hasI φ.length p := by have := q13.t (by omega); unfold hasI; omega
    obtain ⟨k1, ek1, hk1⟩ := nat_of hh
    rw [ek1]
    refine g_aload_n k rfl dX10_forget_21 ?_
    refine g_cVv k 10 (As := []) v_X10_snap rfl rfl hm_ ml_X10_250 (c_X10_snap hm_ hn_ hR hS (by rw [(congrFun eh2 (m + 5)).trans (hup_n (by omega))]; exact cq5) hps z9) (by omega) (by omega) rfl (Nat.le_of_ble_eq_true rfl) rfl dX10_forget_22 (fun h22 p22 => ?_)
    obtain ⟨⟨nm3, ns⟩, nfr3⟩ := p22
    have hm__1 : h22 m = some (mo m (fu (fu s 0 0) 9 ((psh ps (it, φ)).length : Int))) := nm3
    have hn__1 : h22 (m + 2) = some (ai G 86 N) := (nfr3 _ (by omega)).trans hn_
    have fr__1 : ∀ q : Nat, (q ≠ m ∧ q ≠ m + 2 ∧ q ≠ m + 5) → h22 q = h q := fun q hq => (nfr3 q (by omega)).trans (fr_ q hq)
    refine g_aload_n k rfl dX10_forget_25 ?_
    refine g_get k 10 10 (v := .ref (m + 2)) (C := RX10) (T := TX10) (N := 38) fl_X10_74 rfl wi_X10 (by decide) rfl hm__1 rfl dX10_forget_26 ?_
    refine g_iload_n k rfl dX10_forget_29 ?_
    refine g_cSv k (As := [.ref (m + 2), vi (k1 : Int)]) v_X10_forgets ml_X10_256 (c_X10_forgets hn__1 hR hS (k1 := k1) hk1) (by omega) (by omega) rfl (Nat.le_of_ble_eq_true rfl) rfl dX10_forget_30 (fun h30 p30 => ?_)
    obtain ⟨⟨N4, nn, hR4⟩, nfr4⟩ := p30
    have hm__2 : h30 m = some (mo m (fu (fu s 0 0) 9 ((psh ps (it, φ)).length : Int))) := (nfr4 _ (by omega)).trans hm__1
    have hn__2 : h30 (m + 2) = some (ai G 86 N4) := nn
    have fr__2 : ∀ q : Nat, (q ≠ m ∧ q ≠ m + 2 ∧ q ≠ m + 5) → h30 q = h q := fun q hq => (nfr4 q (by omega)).trans (fr__1 q hq)
    refine g_aload_n k rfl dX10_forget_33 ?_
    refine g_cVi k 10 (As := []) v_X10_facts rfl rfl hm__2 ml_X10_237 (c_X10_facts hm__2 hn__2 hR4 (Sm_fgt hS hk1)) (by omega) (by omega) rfl (Nat.le_of_ble_eq_true rfl) rfl dX10_forget_34 (fun r34 h34 p34 => ?_)
    obtain ⟨eh34, p34⟩ := p34
    have eh34 := eh34.symm; subst eh34
    subst p34
    rw [← hQQ]
    refine g_ireti k rfl dX10_forget_37 ?_
    have el : (fgt φ k1).length = φ.length - 1 := List.length_eraseIdx_of_lt hk1
    rw [if_pos hh, if_pos hh, show p.toNat = k1 by omega]
    exact ⟨⟨fun _ => by omega, fun q => absurd hh q⟩, ⟨_, ⟨hm__2, ((fr__2 (m + 1) (by omega)).trans cq1), ⟨N4, hn__2, hR4⟩, (by rw [fr__2 (m + 3) (by omega)]; exact cq3), (by rw [fr__2 (m + 4) (by omega)]; exact cq4), (by rw [nfr4 (m + 5) (by omega)]; exact ns), (by rw [fr__2 (m + 6) (by omega)]; exact cq6), (by rw [fr__2 (m + 7) (by omega)]; exact cq7), (by rw [fr__2 (m + 8) (by omega)]; exact cq8), (by rw [fr__2 (m + 9) (by omega)]; exact cq9), (by rw [fr__2 (m + 10) (by omega)]; exact cq10), (by rw [fr__2 (m + 11) (by omega)]; exact cq11), (by rw [fr__2 (m + 12) (by omega)]; exact cq12), (by rw [fr__2 (m + 13) (by omega)]; exact cq13), (by rw [fr__2 (m + 14) (by omega)]; exact cq14), (by rw [fr__2 (m + 15) (by omega)]; exact cq15), (by rw [fr__2 (m + 16) (by omega)]; exact cq16), (by rw [fr__2 (m + 17) (by omega)]; exact cq17)⟩, ⟨z1, z6, rfl, z14, z17, z15, z16⟩, rfl⟩, (fun q hq => fr__2 q (by omega))⟩
  · skip
    have hh : ¬ hasI φ.length p := fun g => q13.f (by omega) (by unfold hasI at g; omega)
    refine g_iconst k dX10_forget_19 ?_
    rw [← hQQ]
    refine g_ireti k rfl dX10_forget_20 ?_
    rw [if_neg hh, if_neg hh]
    exact ⟨⟨fun q => absurd q hh, fun _ => rfl⟩, ⟨_, ⟨hm_, ((fr_ (m + 1) (by omega)).trans cq1), ⟨N, hn_, hR⟩, (by rw [fr_ (m + 3) (by omega)]; exact cq3), (by rw [fr_ (m + 4) (by omega)]; exact cq4), (by rw [(congrFun eh2 (m + 5)).trans (hup_n (by omega))]; exact cq5), (by rw [fr_ (m + 6) (by omega)]; exact cq6), (by rw [fr_ (m + 7) (by omega)]; exact cq7), (by rw [fr_ (m + 8) (by omega)]; exact cq8), (by rw [fr_ (m + 9) (by omega)]; exact cq9), (by rw [fr_ (m + 10) (by omega)]; exact cq10), (by rw [fr_ (m + 11) (by omega)]; exact cq11), (by rw [fr_ (m + 12) (by omega)]; exact cq12), (by rw [fr_ (m + 13) (by omega)]; exact cq13), (by rw [fr_ (m + 14) (by omega)]; exact cq14), (by rw [fr_ (m + 15) (by omega)]; exact cq15), (by rw [fr_ (m + 16) (by omega)]; exact cq16), (by rw [fr_ (m + 17) (by omega)]; exact cq17)⟩, hsc, rfl⟩, (fun q hq => fr_ q (by omega))⟩

set_option maxHeartbeats 600000 in
set_option maxRecDepth 100000 in
theorem c_X10_image {G : Gx} {h : Hp} {nx m : Nat} {it : Nat} {φ : Fs} {ps : List (Nat × Fs)} {im : Nat → Option (Nat × Fs)} {V : RV} {n : Nat} {T : Nat → Int} {ft : Nat} (hM : MS G h m it φ ps im V n T ft) (hS : Sm it φ) (hIS : ∀ k i ψ, k < 2 → im k = some (i, ψ) → Sm i ψ) {p : Int} (rp : -2147483648 ≤ p ∧ p ≤ 2147483647) : Con G yX10_image cX10_image 2 (some .boolean) 2 0 0 [.ref m, vi p] h nx (PI fun z h' => bz (0 ≤ p ∧ p < 2) z ∧ MT G h' m 0 it φ ps (if 0 ≤ p ∧ p < 2 then fu im p.toNat (some (it, φ)) else im) V n T ft ∧ ∀ q : Nat, (q < m ∨ m + 17 < q) → h' q = h q) := by
  obtain ⟨th, s, ⟨hm, cq1, cq2, cq3, cq4, cq5, cq6, cq7, cq8, cq9, cq10, cq11, cq12, cq13, cq14, cq15, cq16, cq17⟩, hsc, hth⟩ := hM
  obtain ⟨z1, z6, z9, z14, z17, z15, z16⟩ := id hsc
  obtain ⟨N, hn, hR⟩ := id cq2
  obtain ⟨Nk, hk, hkr⟩ := id cq4
  obtain ⟨kz, hz, hkz⟩ := id cq10
  have h28 := hS.2.1
  refine Con.of v_X10_image.2.2.2.2.2.1 (Nat.le_of_ble_eq_true rfl) (lv := [(0, .ref m), (1, vi p)]) rfl (fun X k => ?_)
  generalize hQQ : QM G X nx 0 0 _ = QQ
  have fr0 : ∀ q : Nat, (q ≠ m ∧ q ≠ m + 4 ∧ q ≠ m + 10) → h q = h q := fun _ _ => rfl
  refine g_aload_n k rfl dX10_image_0 ?_
  refine g_iconst k dX10_image_1 ?_
  refine g_put k 10 0 (C := RX10) (T := TX10) (N := 38) fl_X10_1 rfl wi_X10 tyX10 tyX10_ok nmX10 (by decide) rfl rfl rfl rfl hm (Nat.le_of_ble_eq_true rfl) (fs2 := mol m (fu s 0 0)) rfl rfl dX10_image_2 (fun h2 eh2 => ?_)
  have hm_ : h2 m = some (mo m (fu s 0 0)) := (congrFun eh2 _).trans hup_s
  have hn_ : h2 (m + 2) = some (ai G 86 N) := (congrFun eh2 _).trans ((hup_n (by omega)).trans hn)
  have hk_ : h2 (m + 4) = some (ai G 172 Nk) := (congrFun eh2 _).trans ((hup_n (by omega)).trans hk)
  have hz_ : h2 (m + 10) = some (az G 2 kz) := (congrFun eh2 _).trans ((hup_n (by omega)).trans hz)
  have fr_ : ∀ q : Nat, (q ≠ m ∧ q ≠ m + 4 ∧ q ≠ m + 10) → h2 q = h q := fun q hq => (congrFun eh2 q).trans ((hup_n (by omega)).trans (fr0 q hq))
  refine g_iload_n k rfl dX10_image_5 ?_
  refine g_iconst k dX10_image_6 ?_
  refine g_iconst k dX10_image_7 ?_
  refine g_cSi k (As := [vi p, vi 0, vi 1]) v_X10_isIn ml_X10_224 (c_X10_isIn rp (by omega) (by omega)) (by omega) (by omega) rfl (Nat.le_of_ble_eq_true rfl) rfl dX10_image_8 (fun r8 h8 p8 => ?_)
  obtain ⟨eh8, p8⟩ := p8
  have eh8 := eh8.symm; subst eh8
  have q8 := p8
  have q8r := q8.r
  refine g_if_ne k (tgt := 16) (by omega) dX10_image_11 (by decide) (fun c11 => ?_) (fun c11 => ?_)
  · skip
    have hh := q8.t (by omega)
    obtain ⟨k1, ek1⟩ : ∃ k1 : Nat, p = k1 := ⟨p.toNat, by omega⟩
    rw [ek1]
    refine g_aload_n k rfl dX10_image_16 ?_
    refine g_get k 10 10 (v := .ref (m + 2)) (C := RX10) (T := TX10) (N := 38) fl_X10_74 rfl wi_X10 (by decide) rfl hm_ rfl dX10_image_17 ?_
    refine g_iconst k dX10_image_20 ?_
    refine g_aload_n k rfl dX10_image_21 ?_
    refine g_get k 10 12 (v := .ref (m + 4)) (C := RX10) (T := TX10) (N := 38) fl_X10_80 rfl wi_X10 (by decide) rfl hm_ rfl dX10_image_22 ?_
    refine g_bipush k rfl dX10_image_25 ?_
    refine g_iload_n k rfl dX10_image_27 ?_
    refine g_imul k dX10_image_28 ?_
    rw [show 86 * (k1 : Int) = ((86 * k1 : Nat) : Int) from (by omega)]
    refine g_cSv k (As := [.ref (m + 2), vi 0, .ref (m + 4), vi ((86 * k1 : Nat) : Int)]) v_X10_copy ml_X10_163 (c_X10_copy (st := 0) (to := 86 * k1) hn_ hk_ (by omega) (by omega) (by omega) (by omega) (by omega)) (by omega) (by omega) rfl (Nat.le_of_ble_eq_true rfl) rfl dX10_image_29 (fun h29 p29 => ?_)
    obtain ⟨nk, nfr⟩ := p29
    have hm__1 : h29 m = some (mo m (fu s 0 0)) := (nfr _ (by omega)).trans hm_
    have hn__1 : h29 (m + 2) = some (ai G 86 N) := (nfr _ (by omega)).trans hn_
    have hk__1 : h29 (m + 4) = some (ai G 172 (cpF N 0 Nk (86 * k1) 86)) := nk
    have hz__1 : h29 (m + 10) = some (az G 2 kz) := (nfr _ (by omega)).trans hz_
    have fr__1 : ∀ q : Nat, (q ≠ m ∧ q ≠ m + 4 ∧ q ≠ m + 10) → h29 q = h q := fun q hq => (nfr q (by omega)).trans (fr_ q hq)
    refine g_aload_n k rfl dX10_image_32 ?_
    refine g_get k 10 18 (v := .ref (m + 10)) (C := RX10) (T := TX10) (N := 38) fl_X10_99 rfl wi_X10 (by decide) rfl hm__1 rfl dX10_image_33 ?_
    refine g_iload_n k rfl dX10_image_36 ?_
    refine g_iconst k dX10_image_37 ?_
    refine g_zast k k1 (Or.inr rfl) hz__1 (by omega) (by omega) (by decide) dX10_image_38 (fun h38 eh38 => ?_)
    have hm__2 : h38 m = some (mo m (fu s 0 0)) := (congrFun eh38 _).trans ((hup_n (by omega)).trans hm__1)
    have hn__2 : h38 (m + 2) = some (ai G 86 N) := (congrFun eh38 _).trans ((hup_n (by omega)).trans hn__1)
    have hk__2 : h38 (m + 4) = some (ai G 172 (cpF N 0 Nk (86 * k1) 86)) := (congrFun eh38 _).trans ((hup_n (by omega)).trans hk__1)
    have hz__2 : h38 (m + 10) = some (az G 2 (fu kz k1 1)) := (congrFun eh38 _).trans hup_s
    have fr__2 : ∀ q : Nat, (q ≠ m ∧ q ≠ m + 4 ∧ q ≠ m + 10) → h38 q = h q := fun q hq => (congrFun eh38 q).trans ((hup_n (by omega)).trans (fr__1 q hq))
    refine g_iconst k dX10_image_39 ?_
    rw [← hQQ]
    refine g_zreti k (by omega) rfl dX10_image_40 ?_
    rw [if_pos (by omega), show p.toNat = k1 by omega]
    exact ⟨bz.y (by omega), ⟨_, ⟨hm__2, ((fr__2 (m + 1) (by omega)).trans cq1), (by rw [fr__2 (m + 2) (by omega)]; exact cq2), (by rw [fr__2 (m + 3) (by omega)]; exact cq3), ⟨_, hk__2, fun k hk2 i ψ hi => by by_cases e : k = k1; (subst e; rw [fu_s] at hi; cases hi; exact Rw.cp (A := N) (st := 0) (Rw.z.mpr hR) h28); (rw [fu_n e] at hi; exact (hkr k hk2 i ψ hi).ext (hIS k i ψ hk2 hi).2.1 (fun j hj => cpF_out (by omega)))⟩, (by rw [fr__2 (m + 5) (by omega)]; exact cq5), (by rw [fr__2 (m + 6) (by omega)]; exact cq6), (by rw [fr__2 (m + 7) (by omega)]; exact cq7), (by rw [fr__2 (m + 8) (by omega)]; exact cq8), (by rw [fr__2 (m + 9) (by omega)]; exact cq9), ⟨_, hz__2, fun k hk2 => by by_cases e : k = k1; (subst e; rw [fu_s, fu_s]; rfl); (rw [fu_n e, fu_n e]; exact hkz k hk2)⟩, (by rw [fr__2 (m + 11) (by omega)]; exact cq11), (by rw [fr__2 (m + 12) (by omega)]; exact cq12), (by rw [fr__2 (m + 13) (by omega)]; exact cq13), (by rw [fr__2 (m + 14) (by omega)]; exact cq14), (by rw [fr__2 (m + 15) (by omega)]; exact cq15), (by rw [fr__2 (m + 16) (by omega)]; exact cq16), (by rw [fr__2 (m + 17) (by omega)]; exact cq17)⟩, hsc, rfl⟩, (fun q hq => fr__2 q (by omega))⟩
  · skip
    refine g_iconst k dX10_image_14 ?_
    rw [← hQQ]
    refine g_zreti k (by omega) rfl dX10_image_15 ?_
    rw [if_neg (fun g => q8.f (by omega) (by omega))]
    exact ⟨bz.n (fun g => q8.f (by omega) (by omega)), ⟨_, ⟨hm_, ((fr_ (m + 1) (by omega)).trans cq1), (by rw [fr_ (m + 2) (by omega)]; exact cq2), (by rw [fr_ (m + 3) (by omega)]; exact cq3), ⟨Nk, hk_, hkr⟩, (by rw [fr_ (m + 5) (by omega)]; exact cq5), (by rw [fr_ (m + 6) (by omega)]; exact cq6), (by rw [fr_ (m + 7) (by omega)]; exact cq7), (by rw [fr_ (m + 8) (by omega)]; exact cq8), (by rw [fr_ (m + 9) (by omega)]; exact cq9), ⟨kz, hz_, hkz⟩, (by rw [fr_ (m + 11) (by omega)]; exact cq11), (by rw [fr_ (m + 12) (by omega)]; exact cq12), (by rw [fr_ (m + 13) (by omega)]; exact cq13), (by rw [fr_ (m + 14) (by omega)]; exact cq14), (by rw [fr_ (m + 15) (by omega)]; exact cq15), (by rw [fr_ (m + 16) (by omega)]; exact cq16), (by rw [fr_ (m + 17) (by omega)]; exact cq17)⟩, hsc, rfl⟩, (fun q hq => fr_ q (by omega))⟩

set_option maxHeartbeats 600000 in
set_option maxRecDepth 100000 in
theorem c_X10_restore {G : Gx} {h : Hp} {nx m : Nat} {it : Nat} {φ : Fs} {ps : List (Nat × Fs)} {im : Nat → Option (Nat × Fs)} {V : RV} {n : Nat} {T : Nat → Int} {ft : Nat} (hM : MS G h m it φ ps im V n T ft) (hS : Sm it φ) (hIS : ∀ k i ψ, k < 2 → im k = some (i, ψ) → Sm i ψ) {p : Int} (rp : -2147483648 ≤ p ∧ p ≤ 2147483647) : Con G yX10_restore cX10_restore 2 (some .boolean) 2 0 0 [.ref m, vi p] h nx (PI fun z h' => bz ((rsO im p).isSome = true) z ∧ MT G h' m 0 (rsF0 it φ ps (rsO im p)).1 (rsF0 it φ ps (rsO im p)).2.1 (rsF0 it φ ps (rsO im p)).2.2 im V n T ft ∧ ∀ q : Nat, (q < m ∨ m + 17 < q) → h' q = h q) := by
  obtain ⟨th, s, ⟨hm, cq1, cq2, cq3, cq4, cq5, cq6, cq7, cq8, cq9, cq10, cq11, cq12, cq13, cq14, cq15, cq16, cq17⟩, hsc, hth⟩ := hM
  obtain ⟨z1, z6, z9, z14, z17, z15, z16⟩ := id hsc
  obtain ⟨N, hn, hR⟩ := id cq2
  obtain ⟨Nk, hk, hkr⟩ := id cq4
  obtain ⟨kz, hz, hkz⟩ := id cq10
  have h28 := hS.2.1
  refine Con.of v_X10_restore.2.2.2.2.2.1 (Nat.le_of_ble_eq_true rfl) (lv := [(0, .ref m), (1, vi p)]) rfl (fun X k => ?_)
  generalize hQQ : QM G X nx 0 0 _ = QQ
  have fr0 : ∀ q : Nat, (q ≠ m ∧ q ≠ m + 2 ∧ q ≠ m + 5) → h q = h q := fun _ _ => rfl
  refine g_aload_n k rfl dX10_restore_0 ?_
  refine g_iconst k dX10_restore_1 ?_
  refine g_put k 10 0 (C := RX10) (T := TX10) (N := 38) fl_X10_1 rfl wi_X10 tyX10 tyX10_ok nmX10 (by decide) rfl rfl rfl rfl hm (Nat.le_of_ble_eq_true rfl) (fs2 := mol m (fu s 0 0)) rfl rfl dX10_restore_2 (fun h2 eh2 => ?_)
  have hm_ : h2 m = some (mo m (fu s 0 0)) := (congrFun eh2 _).trans hup_s
  have hn_ : h2 (m + 2) = some (ai G 86 N) := (congrFun eh2 _).trans ((hup_n (by omega)).trans hn)
  have hk_ : h2 (m + 4) = some (ai G 172 Nk) := (congrFun eh2 _).trans ((hup_n (by omega)).trans hk)
  have hz_ : h2 (m + 10) = some (az G 2 kz) := (congrFun eh2 _).trans ((hup_n (by omega)).trans hz)
  have fr_ : ∀ q : Nat, (q ≠ m ∧ q ≠ m + 2 ∧ q ≠ m + 5) → h2 q = h q := fun q hq => (congrFun eh2 q).trans ((hup_n (by omega)).trans (fr0 q hq))
  refine g_iload_n k rfl dX10_restore_5 ?_
  refine g_iconst k dX10_restore_6 ?_
  refine g_iconst k dX10_restore_7 ?_
  refine g_cSi k (As := [vi p, vi 0, vi 1]) v_X10_isIn ml_X10_224 (c_X10_isIn rp (by omega) (by omega)) (by omega) (by omega) rfl (Nat.le_of_ble_eq_true rfl) rfl dX10_restore_8 (fun r8 h8 p8 => ?_)
  obtain ⟨eh8, p8⟩ := p8
  have eh8 := eh8.symm; subst eh8
  have q8 := p8
  have q8r := q8.r
  refine g_if_eq k (tgt := 23) (by omega) dX10_restore_11 (by decide) (fun c11 => ?_) (fun c11 => ?_)
  · skip
    refine g_iconst k dX10_restore_23 ?_
    rw [← hQQ]
    refine g_zreti k (by omega) rfl dX10_restore_24 ?_
    have e : rsO im p = none := by unfold rsO; rw [if_neg (fun g => q8.f (by omega) (by omega))]
    rw [e]
    exact ⟨bz.n (by decide), ⟨_, ⟨hm_, ((fr_ (m + 1) (by omega)).trans cq1), ⟨N, hn_, hR⟩, (by rw [fr_ (m + 3) (by omega)]; exact cq3), (by rw [fr_ (m + 4) (by omega)]; exact cq4), (by rw [(congrFun eh2 (m + 5)).trans (hup_n (by omega))]; exact cq5), (by rw [fr_ (m + 6) (by omega)]; exact cq6), (by rw [fr_ (m + 7) (by omega)]; exact cq7), (by rw [fr_ (m + 8) (by omega)]; exact cq8), (by rw [fr_ (m + 9) (by omega)]; exact cq9), (by rw [fr_ (m + 10) (by omega)]; exact cq10), (by rw [fr_ (m + 11) (by omega)]; exact cq11), (by rw [fr_ (m + 12) (by omega)]; exact cq12), (by rw [fr_ (m + 13) (by omega)]; exact cq13), (by rw [fr_ (m + 14) (by omega)]; exact cq14), (by rw [fr_ (m + 15) (by omega)]; exact cq15), (by rw [fr_ (m + 16) (by omega)]; exact cq16), (by rw [fr_ (m + 17) (by omega)]; exact cq17)⟩, hsc, rfl⟩, (fun q hq => fr_ q (by omega))⟩
  · skip
    have hh := q8.t (by omega)
    obtain ⟨k1, ek1⟩ : ∃ k1 : Nat, p = k1 := ⟨p.toNat, by omega⟩
    have hkk := hkz k1 (by omega)
    have hrs : rsO im (k1 : Int) = im k1 := by unfold rsO; rw [if_pos (by omega), Int.toNat_natCast]
    have hzr : 0 ≤ kz k1 ∧ kz k1 ≤ 1 := by rw [hkk]; split <;> omega
    rw [ek1]
    rw [ek1] at hQQ
    refine g_aload_n k rfl dX10_restore_14 ?_
    refine g_get k 10 18 (v := .ref (m + 10)) (C := RX10) (T := TX10) (N := 38) fl_X10_99 rfl wi_X10 (by decide) rfl hm_ rfl dX10_restore_15 ?_
    refine g_iload_n k rfl dX10_restore_18 ?_
    refine g_zald k k1 hz_ (by omega) (by omega) (by decide) dX10_restore_19 ?_
    refine g_if_ne k (tgt := 25) (by omega) dX10_restore_20 (by decide) (fun c20 => ?_) (fun c20 => ?_)
    · skip
      have his : (im k1).isSome = true := by by_cases e : (im k1).isSome = true; exact e; (rw [if_neg e] at hkk; omega)
      obtain ⟨⟨i1, ψ1⟩, him⟩ := Option.isSome_iff_exists.mp his
      refine g_aload_n k rfl dX10_restore_25 ?_
      refine g_get k 10 12 (v := .ref (m + 4)) (C := RX10) (T := TX10) (N := 38) fl_X10_80 rfl wi_X10 (by decide) rfl hm_ rfl dX10_restore_26 ?_
      refine g_bipush k rfl dX10_restore_29 ?_
      refine g_iload_n k rfl dX10_restore_31 ?_
      refine g_imul k dX10_restore_32 ?_
      rw [show 86 * (k1 : Int) = ((86 * k1 : Nat) : Int) from (by omega)]
      refine g_aload_n k rfl dX10_restore_33 ?_
      refine g_get k 10 10 (v := .ref (m + 2)) (C := RX10) (T := TX10) (N := 38) fl_X10_74 rfl wi_X10 (by decide) rfl hm_ rfl dX10_restore_34 ?_
      refine g_iconst k dX10_restore_37 ?_
      refine g_cSv k (As := [.ref (m + 4), vi ((86 * k1 : Nat) : Int), .ref (m + 2), vi 0]) v_X10_copy ml_X10_163 (c_X10_copy (st := 86 * k1) (to := 0) hk_ hn_ (by omega) (by omega) (by omega) (by omega) (by omega)) (by omega) (by omega) rfl (Nat.le_of_ble_eq_true rfl) rfl dX10_restore_38 (fun h38 p38 => ?_)
      obtain ⟨nn, nfr⟩ := p38
      have hm__1 : h38 m = some (mo m (fu s 0 0)) := (nfr _ (by omega)).trans hm_
      have hn__1 : h38 (m + 2) = some (ai G 86 (cpF Nk (86 * k1) N 0 86)) := nn
      have hk__1 : h38 (m + 4) = some (ai G 172 Nk) := (nfr _ (by omega)).trans hk_
      have hz__1 : h38 (m + 10) = some (az G 2 kz) := (nfr _ (by omega)).trans hz_
      have fr__1 : ∀ q : Nat, (q ≠ m ∧ q ≠ m + 2 ∧ q ≠ m + 5) → h38 q = h q := fun q hq => (nfr q (by omega)).trans (fr_ q hq)
      refine g_aload_n k rfl dX10_restore_41 ?_
      refine g_iconst k dX10_restore_42 ?_
      refine g_put k 10 19 (C := RX10) (T := TX10) (N := 38) fl_X10_167 rfl wi_X10 tyX10 tyX10_ok nmX10 (by decide) rfl rfl rfl rfl hm__1 (Nat.le_of_ble_eq_true rfl) (fs2 := mol m (fu (fu s 0 0) 9 0)) rfl rfl dX10_restore_43 (fun h43 eh43 => ?_)
      have hm__2 : h43 m = some (mo m (fu (fu s 0 0) 9 0)) := (congrFun eh43 _).trans hup_s
      have hn__2 : h43 (m + 2) = some (ai G 86 (cpF Nk (86 * k1) N 0 86)) := (congrFun eh43 _).trans ((hup_n (by omega)).trans hn__1)
      have hk__2 : h43 (m + 4) = some (ai G 172 Nk) := (congrFun eh43 _).trans ((hup_n (by omega)).trans hk__1)
      have hz__2 : h43 (m + 10) = some (az G 2 kz) := (congrFun eh43 _).trans ((hup_n (by omega)).trans hz__1)
      have fr__2 : ∀ q : Nat, (q ≠ m ∧ q ≠ m + 2 ∧ q ≠ m + 5) → h43 q = h q := fun q hq => (congrFun eh43 q).trans ((hup_n (by omega)).trans (fr__1 q hq))
      refine g_iconst k dX10_restore_46 ?_
      rw [← hQQ]
      refine g_zreti k (by omega) rfl dX10_restore_47 ?_
      have e : rsO im (k1 : Int) = some (i1, ψ1) := by rw [hrs]; exact him
      rw [e]
      exact ⟨bz.y rfl, ⟨_, ⟨hm__2, ((fr__2 (m + 1) (by omega)).trans cq1), ⟨_, hn__2, (hkr k1 (by omega) i1 ψ1 him).ext (hIS k1 i1 ψ1 (by omega) him).2.1 (fun j hj => by have := @cpF_in Nk N (86 * k1) 0 j hj; rw [Nat.zero_add] at this; exact this)⟩, (by rw [fr__2 (m + 3) (by omega)]; exact cq3), (by rw [fr__2 (m + 4) (by omega)]; exact cq4), (by obtain ⟨Ns, hs, -⟩ := cq5; exact ⟨Ns, (congrFun eh43 (m + 5)).trans ((hup_n (by omega)).trans ((nfr (m + 5) (by omega)).trans (((congrFun eh2 (m + 5)).trans (hup_n (by omega))).trans hs))), fun i hi => absurd hi (Nat.not_lt_zero i)⟩), (by rw [fr__2 (m + 6) (by omega)]; exact cq6), (by rw [fr__2 (m + 7) (by omega)]; exact cq7), (by rw [fr__2 (m + 8) (by omega)]; exact cq8), (by rw [fr__2 (m + 9) (by omega)]; exact cq9), (by rw [fr__2 (m + 10) (by omega)]; exact cq10), (by rw [fr__2 (m + 11) (by omega)]; exact cq11), (by rw [fr__2 (m + 12) (by omega)]; exact cq12), (by rw [fr__2 (m + 13) (by omega)]; exact cq13), (by rw [fr__2 (m + 14) (by omega)]; exact cq14), (by rw [fr__2 (m + 15) (by omega)]; exact cq15), (by rw [fr__2 (m + 16) (by omega)]; exact cq16), (by rw [fr__2 (m + 17) (by omega)]; exact cq17)⟩, ⟨z1, z6, rfl, z14, z17, z15, z16⟩, rfl⟩, (fun q hq => fr__2 q (by omega))⟩
    · skip
      have his : ¬ (im k1).isSome = true := fun e => by rw [if_pos e] at hkk; omega
      refine g_iconst k dX10_restore_23 ?_
      rw [← hQQ]
      refine g_zreti k (by omega) rfl dX10_restore_24 ?_
      have e : rsO im (k1 : Int) = none := by rw [hrs]; exact Option.not_isSome_iff_eq_none.mp his
      rw [e]
      exact ⟨bz.n (by decide), ⟨_, ⟨hm_, ((fr_ (m + 1) (by omega)).trans cq1), ⟨N, hn_, hR⟩, (by rw [fr_ (m + 3) (by omega)]; exact cq3), (by rw [fr_ (m + 4) (by omega)]; exact cq4), (by rw [(congrFun eh2 (m + 5)).trans (hup_n (by omega))]; exact cq5), (by rw [fr_ (m + 6) (by omega)]; exact cq6), (by rw [fr_ (m + 7) (by omega)]; exact cq7), (by rw [fr_ (m + 8) (by omega)]; exact cq8), (by rw [fr_ (m + 9) (by omega)]; exact cq9), (by rw [fr_ (m + 10) (by omega)]; exact cq10), (by rw [fr_ (m + 11) (by omega)]; exact cq11), (by rw [fr_ (m + 12) (by omega)]; exact cq12), (by rw [fr_ (m + 13) (by omega)]; exact cq13), (by rw [fr_ (m + 14) (by omega)]; exact cq14), (by rw [fr_ (m + 15) (by omega)]; exact cq15), (by rw [fr_ (m + 16) (by omega)]; exact cq16), (by rw [fr_ (m + 17) (by omega)]; exact cq17)⟩, hsc, rfl⟩, (fun q hq => fr_ q (by omega))⟩

theorem dl_getD {ps : List (Nat × Fs)} {i : Nat} (h : i < ps.dropLast.length) : ps.dropLast.getD i (0, []) = ps.getD i (0, []) := by
  have hl : ps.dropLast.length = ps.length - 1 := List.length_dropLast
  simp only [List.getD_eq_getElem?_getD]
  rw [List.getElem?_dropLast, if_pos (by omega)]
theorem last_getD {ps : List (Nat × Fs)} (h : ps.length ≠ 0) : ps.getLastD (0, []) = ps.getD (ps.length - 1) (0, []) := by
  rw [List.getLastD_eq_getLast?, List.getLast?_eq_getElem?, List.getD_eq_getElem?_getD]
set_option maxHeartbeats 600000 in
set_option maxRecDepth 100000 in
theorem c_X10_undo {G : Gx} {h : Hp} {nx m : Nat} {it : Nat} {φ : Fs} {ps : List (Nat × Fs)} {im : Nat → Option (Nat × Fs)} {V : RV} {n : Nat} {T : Nat → Int} {ft : Nat} (hM : MS G h m it φ ps im V n T ft) (hS : Sm it φ) (hps : PsO ps) : Con G yX10_undo cX10_undo 1 (some .int) 2 0 0 [.ref m] h nx (PI fun z h' => z = (if ps.length = 0 then -1 else (ps.length : Int) - 1) ∧ MT G h' m 0 (if ps.length = 0 then it else (ps.getLastD (0, [])).1) (if ps.length = 0 then φ else (ps.getLastD (0, [])).2) ps.dropLast im V n T ft ∧ ∀ q : Nat, (q < m ∨ m + 17 < q) → h' q = h q) := by
  obtain ⟨th, s, ⟨hm, cq1, cq2, cq3, cq4, cq5, cq6, cq7, cq8, cq9, cq10, cq11, cq12, cq13, cq14, cq15, cq16, cq17⟩, hsc, hth⟩ := hM
  obtain ⟨z1, z6, z9, z14, z17, z15, z16⟩ := id hsc
  obtain ⟨N, hn, hR⟩ := id cq2
  obtain ⟨Ns, hs, hsr⟩ := id cq5
  obtain ⟨hp8, hpS⟩ := id hps
  have h28 := hS.2.1
  refine Con.of v_X10_undo.2.2.2.2.2.1 (Nat.le_of_ble_eq_true rfl) (lv := [(0, .ref m)]) rfl (fun X k => ?_)
  generalize hQQ : QM G X nx 0 0 _ = QQ
  have fr0 : ∀ q : Nat, (q ≠ m ∧ q ≠ m + 2) → h q = h q := fun _ _ => rfl
  refine g_aload_n k rfl dX10_undo_0 ?_
  refine g_iconst k dX10_undo_1 ?_
  refine g_put k 10 0 (C := RX10) (T := TX10) (N := 38) fl_X10_1 rfl wi_X10 tyX10 tyX10_ok nmX10 (by decide) rfl rfl rfl rfl hm (Nat.le_of_ble_eq_true rfl) (fs2 := mol m (fu s 0 0)) rfl rfl dX10_undo_2 (fun h2 eh2 => ?_)
  have hm_ : h2 m = some (mo m (fu s 0 0)) := (congrFun eh2 _).trans hup_s
  have hn_ : h2 (m + 2) = some (ai G 86 N) := (congrFun eh2 _).trans ((hup_n (by omega)).trans hn)
  have hs_ : h2 (m + 5) = some (ai G 688 Ns) := (congrFun eh2 _).trans ((hup_n (by omega)).trans hs)
  have fr_ : ∀ q : Nat, (q ≠ m ∧ q ≠ m + 2) → h2 q = h q := fun q hq => (congrFun eh2 q).trans ((hup_n (by omega)).trans (fr0 q hq))
  refine g_aload_n k rfl dX10_undo_5 ?_
  refine g_get k 10 19 (v := vi (s 9)) (C := RX10) (T := TX10) (N := 38) fl_X10_167 rfl wi_X10 (by decide) rfl hm_ rfl dX10_undo_6 ?_
  refine g_if_ne k (tgt := 14) (by omega) dX10_undo_9 (by decide) (fun c9 => ?_) (fun c9 => ?_)
  · skip
    refine g_aload_n k rfl dX10_undo_14 ?_
    refine g_dup k rfl dX10_undo_15 ?_
    refine g_get k 10 19 (v := vi (s 9)) (C := RX10) (T := TX10) (N := 38) fl_X10_167 rfl wi_X10 (by decide) rfl hm_ rfl dX10_undo_16 ?_
    refine g_iconst k dX10_undo_19 ?_
    refine g_isub k dX10_undo_20 ?_
    refine g_put k 10 19 (C := RX10) (T := TX10) (N := 38) fl_X10_167 rfl wi_X10 tyX10 tyX10_ok nmX10 (by decide) rfl rfl rfl rfl hm_ (Nat.le_of_ble_eq_true rfl) (fs2 := mol m (fu (fu s 0 0) 9 ((s 9) - 1))) rfl rfl dX10_undo_21 (fun h21 eh21 => ?_)
    have hm__1 : h21 m = some (mo m (fu (fu s 0 0) 9 ((s 9) - 1))) := (congrFun eh21 _).trans hup_s
    have hn__1 : h21 (m + 2) = some (ai G 86 N) := (congrFun eh21 _).trans ((hup_n (by omega)).trans hn_)
    have hs__1 : h21 (m + 5) = some (ai G 688 Ns) := (congrFun eh21 _).trans ((hup_n (by omega)).trans hs_)
    have fr__1 : ∀ q : Nat, (q ≠ m ∧ q ≠ m + 2) → h21 q = h q := fun q hq => (congrFun eh21 q).trans ((hup_n (by omega)).trans (fr_ q hq))
    refine g_aload_n k rfl dX10_undo_24 ?_
    refine g_get k 10 13 (v := .ref (m + 5)) (C := RX10) (T := TX10) (N := 38) fl_X10_83 rfl wi_X10 (by decide) rfl hm__1 rfl dX10_undo_25 ?_
    refine g_bipush k rfl dX10_undo_28 ?_
    refine g_aload_n k rfl dX10_undo_30 ?_
    refine g_get k 10 19 (v := vi ((s 9) - 1)) (C := RX10) (T := TX10) (N := 38) fl_X10_167 rfl wi_X10 (by decide) rfl hm__1 rfl dX10_undo_31 ?_
    refine g_imul k dX10_undo_34 ?_
    rw [show 86 * ((s 9) - 1) = ((86 * (ps.length - 1) : Nat) : Int) from (by omega)]
    refine g_aload_n k rfl dX10_undo_35 ?_
    refine g_get k 10 10 (v := .ref (m + 2)) (C := RX10) (T := TX10) (N := 38) fl_X10_74 rfl wi_X10 (by decide) rfl hm__1 rfl dX10_undo_36 ?_
    refine g_iconst k dX10_undo_39 ?_
    refine g_cSv k (As := [.ref (m + 5), vi ((86 * (ps.length - 1) : Nat) : Int), .ref (m + 2), vi 0]) v_X10_copy ml_X10_163 (c_X10_copy (st := 86 * (ps.length - 1)) (to := 0) hs__1 hn__1 (by omega) (by omega) (by omega) (by omega) (by omega)) (by omega) (by omega) rfl (Nat.le_of_ble_eq_true rfl) rfl dX10_undo_40 (fun h40 p40 => ?_)
    obtain ⟨nn, nfr⟩ := p40
    have hm__2 : h40 m = some (mo m (fu (fu s 0 0) 9 ((s 9) - 1))) := (nfr _ (by omega)).trans hm__1
    have hn__2 : h40 (m + 2) = some (ai G 86 (cpF Ns (86 * (ps.length - 1)) N 0 86)) := nn
    have hs__2 : h40 (m + 5) = some (ai G 688 Ns) := (nfr _ (by omega)).trans hs__1
    have fr__2 : ∀ q : Nat, (q ≠ m ∧ q ≠ m + 2) → h40 q = h q := fun q hq => (nfr q (by omega)).trans (fr__1 q hq)
    refine g_aload_n k rfl dX10_undo_43 ?_
    refine g_get k 10 19 (v := vi ((s 9) - 1)) (C := RX10) (T := TX10) (N := 38) fl_X10_167 rfl wi_X10 (by decide) rfl hm__2 rfl dX10_undo_44 ?_
    rw [← hQQ]
    refine g_ireti k rfl dX10_undo_47 ?_
    have hl : ps.length ≠ 0 := by omega
    have el : ps.dropLast.length = ps.length - 1 := List.length_dropLast
    rw [if_neg hl, if_neg hl, if_neg hl, last_getD hl]
    exact ⟨(by omega), ⟨_, ⟨hm__2, ((fr__2 (m + 1) (by omega)).trans cq1), ⟨_, hn__2, (hsr (ps.length - 1) (by omega)).ext (hpS (ps.length - 1) (by omega)).2.1 (fun j hj => by have := @cpF_in Ns N (86 * (ps.length - 1)) 0 j hj; rw [Nat.zero_add] at this; exact this)⟩, (by rw [fr__2 (m + 3) (by omega)]; exact cq3), (by rw [fr__2 (m + 4) (by omega)]; exact cq4), ⟨Ns, hs__2, fun i hi => by rw [dl_getD hi]; exact hsr i (by omega)⟩, (by rw [fr__2 (m + 6) (by omega)]; exact cq6), (by rw [fr__2 (m + 7) (by omega)]; exact cq7), (by rw [fr__2 (m + 8) (by omega)]; exact cq8), (by rw [fr__2 (m + 9) (by omega)]; exact cq9), (by rw [fr__2 (m + 10) (by omega)]; exact cq10), (by rw [fr__2 (m + 11) (by omega)]; exact cq11), (by rw [fr__2 (m + 12) (by omega)]; exact cq12), (by rw [fr__2 (m + 13) (by omega)]; exact cq13), (by rw [fr__2 (m + 14) (by omega)]; exact cq14), (by rw [fr__2 (m + 15) (by omega)]; exact cq15), (by rw [fr__2 (m + 16) (by omega)]; exact cq16), (by rw [fr__2 (m + 17) (by omega)]; exact cq17)⟩, ⟨z1, z6, (show s 9 - 1 = (ps.dropLast.length : Int) by omega), z14, z17, z15, z16⟩, rfl⟩, (fun q hq => fr__2 q (by omega))⟩
  · skip
    refine g_iconst k dX10_undo_12 ?_
    rw [← hQQ]
    refine g_ireti k rfl dX10_undo_13 ?_
    have e : ps = [] := List.eq_nil_of_length_eq_zero (by omega)
    subst e
    exact ⟨rfl, ⟨_, ⟨hm_, ((fr_ (m + 1) (by omega)).trans cq1), ⟨N, hn_, hR⟩, (by rw [fr_ (m + 3) (by omega)]; exact cq3), (by rw [fr_ (m + 4) (by omega)]; exact cq4), ⟨Ns, hs_, hsr⟩, (by rw [fr_ (m + 6) (by omega)]; exact cq6), (by rw [fr_ (m + 7) (by omega)]; exact cq7), (by rw [fr_ (m + 8) (by omega)]; exact cq8), (by rw [fr_ (m + 9) (by omega)]; exact cq9), (by rw [fr_ (m + 10) (by omega)]; exact cq10), (by rw [fr_ (m + 11) (by omega)]; exact cq11), (by rw [fr_ (m + 12) (by omega)]; exact cq12), (by rw [fr_ (m + 13) (by omega)]; exact cq13), (by rw [fr_ (m + 14) (by omega)]; exact cq14), (by rw [fr_ (m + 15) (by omega)]; exact cq15), (by rw [fr_ (m + 16) (by omega)]; exact cq16), (by rw [fr_ (m + 17) (by omega)]; exact cq17)⟩, hsc, rfl⟩, (fun q hq => fr_ q (by omega))⟩

set_option maxHeartbeats 600000 in
set_option maxRecDepth 100000 in
theorem c_X10_grow {G : Gx} {h : Hp} {nx m : Nat} {it : Nat} {φ : Fs} {ps : List (Nat × Fs)} {im : Nat → Option (Nat × Fs)} {V : RV} {n : Nat} {T : Nat → Int} {ft : Nat} (hM : MS G h m it φ ps im V n T ft) (hS : Sm it φ) (hps : PsO ps) : Con G yX10_grow cX10_grow 1 (some .int) 3 0 0 [.ref m] h nx (PI fun z h' => z = (if it < 8 then (it : Int) else -1) ∧ MT G h' m 0 (if it < 8 then it + 1 else it) φ (if it < 8 then psh ps (it, φ) else ps) im V n T ft ∧ ∀ q : Nat, (q < m ∨ m + 17 < q) → h' q = h q) := by
  obtain ⟨th, s, ⟨hm, cq1, cq2, cq3, cq4, cq5, cq6, cq7, cq8, cq9, cq10, cq11, cq12, cq13, cq14, cq15, cq16, cq17⟩, hsc, hth⟩ := hM
  obtain ⟨z1, z6, z9, z14, z17, z15, z16⟩ := id hsc
  obtain ⟨N, hn, hR⟩ := id cq2
  obtain ⟨h8, h28, hsm⟩ := id hS
  refine Con.of v_X10_grow.2.2.2.2.2.1 (Nat.le_of_ble_eq_true rfl) (lv := [(0, .ref m)]) rfl (fun X k => ?_)
  generalize hQQ : QM G X nx 0 0 _ = QQ
  have fr0 : ∀ q : Nat, (q ≠ m ∧ q ≠ m + 2 ∧ q ≠ m + 5) → h q = h q := fun _ _ => rfl
  refine g_aload_n k rfl dX10_grow_0 ?_
  refine g_iconst k dX10_grow_1 ?_
  refine g_put k 10 0 (C := RX10) (T := TX10) (N := 38) fl_X10_1 rfl wi_X10 tyX10 tyX10_ok nmX10 (by decide) rfl rfl rfl rfl hm (Nat.le_of_ble_eq_true rfl) (fs2 := mol m (fu s 0 0)) rfl rfl dX10_grow_2 (fun h2 eh2 => ?_)
  have hm_ : h2 m = some (mo m (fu s 0 0)) := (congrFun eh2 _).trans hup_s
  have hn_ : h2 (m + 2) = some (ai G 86 N) := (congrFun eh2 _).trans ((hup_n (by omega)).trans hn)
  have fr_ : ∀ q : Nat, (q ≠ m ∧ q ≠ m + 2 ∧ q ≠ m + 5) → h2 q = h q := fun q hq => (congrFun eh2 q).trans ((hup_n (by omega)).trans (fr0 q hq))
  refine g_aload_n k rfl dX10_grow_5 ?_
  refine g_cVi k 10 (As := []) v_X10_items rfl rfl hm_ ml_X10_228 (c_X10_items hm_ hn_ hR hS) (by omega) (by omega) rfl (Nat.le_of_ble_eq_true rfl) rfl dX10_grow_6 (fun r6 h6 p6 => ?_)
  obtain ⟨eh6, p6⟩ := p6
  have eh6 := eh6.symm; subst eh6
  subst p6
  refine g_bipush k rfl dX10_grow_9 ?_
  refine g_icmp_ne k (tgt := 16) (by omega) (by omega) dX10_grow_11 (by decide) (fun c11 => ?_) (fun c11 => ?_)
  · skip
    refine g_aload_n k rfl dX10_grow_16 ?_
    refine g_cVv k 10 (As := []) v_X10_snap rfl rfl hm_ ml_X10_250 (c_X10_snap hm_ hn_ hR hS (by rw [(congrFun eh2 (m + 5)).trans (hup_n (by omega))]; exact cq5) hps z9) (by omega) (by omega) rfl (Nat.le_of_ble_eq_true rfl) rfl dX10_grow_17 (fun h17 p17 => ?_)
    obtain ⟨⟨nm3, ns⟩, nfr3⟩ := p17
    have hm__1 : h17 m = some (mo m (fu (fu s 0 0) 9 ((psh ps (it, φ)).length : Int))) := nm3
    have hn__1 : h17 (m + 2) = some (ai G 86 N) := (nfr3 _ (by omega)).trans hn_
    have fr__1 : ∀ q : Nat, (q ≠ m ∧ q ≠ m + 2 ∧ q ≠ m + 5) → h17 q = h q := fun q hq => (nfr3 q (by omega)).trans (fr_ q hq)
    refine g_aload_n k rfl dX10_grow_20 ?_
    refine g_get k 10 10 (v := .ref (m + 2)) (C := RX10) (T := TX10) (N := 38) fl_X10_74 rfl wi_X10 (by decide) rfl hm__1 rfl dX10_grow_21 ?_
    refine g_iconst k dX10_grow_24 ?_
    refine g_dup2 k rfl rfl dX10_grow_25 ?_
    refine g_iald k 0 hn__1 (by omega) (by omega) (by decide) dX10_grow_26 ?_
    rw [show N 0 = (it : Int) from hR.i]
    refine g_iconst k dX10_grow_27 ?_
    refine g_iadd k dX10_grow_28 ?_
    refine g_iast k 0 hn__1 (by omega) (by omega) (by decide) dX10_grow_29 (fun h29 eh29 => ?_)
    have hm__2 : h29 m = some (mo m (fu (fu s 0 0) 9 ((psh ps (it, φ)).length : Int))) := (congrFun eh29 _).trans ((hup_n (by omega)).trans hm__1)
    have hn__2 : h29 (m + 2) = some (ai G 86 (fu N 0 ((it : Int) + 1))) := (congrFun eh29 _).trans hup_s
    have fr__2 : ∀ q : Nat, (q ≠ m ∧ q ≠ m + 2 ∧ q ≠ m + 5) → h29 q = h q := fun q hq => (congrFun eh29 q).trans ((hup_n (by omega)).trans (fr__1 q hq))
    refine g_aload_n k rfl dX10_grow_30 ?_
    refine g_cVi k 10 (As := []) v_X10_items rfl rfl hm__2 ml_X10_228 (c1_X10_items hm__2 hn__2 (i1 := it + 1) (by rw [fu_s]; rfl)) (by omega) (by omega) rfl (Nat.le_of_ble_eq_true rfl) rfl dX10_grow_31 (fun r31 h31 p31 => ?_)
    obtain ⟨eh31, p31⟩ := p31
    have eh31 := eh31.symm; subst eh31
    subst p31
    refine g_iconst k dX10_grow_34 ?_
    refine g_isub k dX10_grow_35 ?_
    rw [← hQQ]
    refine g_ireti k rfl dX10_grow_36 ?_
    rw [if_pos (by omega), if_pos (by omega), if_pos (by omega)]
    exact ⟨(by omega), ⟨_, ⟨hm__2, ((fr__2 (m + 1) (by omega)).trans cq1), ⟨_, hn__2, ⟨by rw [fu_s]; rfl, by rw [fu_n (by omega)]; exact hR.n, fun i hi => by rw [fu_n (by omega), fu_n (by omega), fu_n (by omega)]; exact hR.2.2 i hi⟩⟩, (by rw [fr__2 (m + 3) (by omega)]; exact cq3), (by rw [fr__2 (m + 4) (by omega)]; exact cq4), (by rw [(congrFun eh29 (m + 5)).trans (hup_n (by omega))]; exact ns), (by rw [fr__2 (m + 6) (by omega)]; exact cq6), (by rw [fr__2 (m + 7) (by omega)]; exact cq7), (by rw [fr__2 (m + 8) (by omega)]; exact cq8), (by rw [fr__2 (m + 9) (by omega)]; exact cq9), (by rw [fr__2 (m + 10) (by omega)]; exact cq10), (by rw [fr__2 (m + 11) (by omega)]; exact cq11), (by rw [fr__2 (m + 12) (by omega)]; exact cq12), (by rw [fr__2 (m + 13) (by omega)]; exact cq13), (by rw [fr__2 (m + 14) (by omega)]; exact cq14), (by rw [fr__2 (m + 15) (by omega)]; exact cq15), (by rw [fr__2 (m + 16) (by omega)]; exact cq16), (by rw [fr__2 (m + 17) (by omega)]; exact cq17)⟩, ⟨z1, z6, rfl, z14, z17, z15, z16⟩, rfl⟩, (fun q hq => fr__2 q (by omega))⟩
  · skip
    refine g_iconst k dX10_grow_14 ?_
    rw [← hQQ]
    refine g_ireti k rfl dX10_grow_15 ?_
    rw [if_neg (by omega), if_neg (by omega), if_neg (by omega)]
    exact ⟨rfl, ⟨_, ⟨hm_, ((fr_ (m + 1) (by omega)).trans cq1), ⟨N, hn_, hR⟩, (by rw [fr_ (m + 3) (by omega)]; exact cq3), (by rw [fr_ (m + 4) (by omega)]; exact cq4), (by rw [(congrFun eh2 (m + 5)).trans (hup_n (by omega))]; exact cq5), (by rw [fr_ (m + 6) (by omega)]; exact cq6), (by rw [fr_ (m + 7) (by omega)]; exact cq7), (by rw [fr_ (m + 8) (by omega)]; exact cq8), (by rw [fr_ (m + 9) (by omega)]; exact cq9), (by rw [fr_ (m + 10) (by omega)]; exact cq10), (by rw [fr_ (m + 11) (by omega)]; exact cq11), (by rw [fr_ (m + 12) (by omega)]; exact cq12), (by rw [fr_ (m + 13) (by omega)]; exact cq13), (by rw [fr_ (m + 14) (by omega)]; exact cq14), (by rw [fr_ (m + 15) (by omega)]; exact cq15), (by rw [fr_ (m + 16) (by omega)]; exact cq16), (by rw [fr_ (m + 17) (by omega)]; exact cq17)⟩, hsc, rfl⟩, (fun q hq => fr_ q (by omega))⟩

theorem pcH_add : ∀ (n k w : Nat), w < 2 ^ n → n < k → pcH k (w + 2 ^ n) = pcH k w + 1
  | 0, k + 1, w, hw, hk => by
    have e : w = 0 := by simp at hw; exact hw
    subst e
    rw [pcH_0]
    unfold pcH
    show 1 % 2 + pcH k (1 / 2) = 0 + 1
    rw [show 1 / 2 = 0 from rfl, pcH_0]
  | n + 1, k + 1, w, hw, hk => by
    rw [Nat.pow_succ] at hw
    have ih := pcH_add n k (w / 2) (by omega) (by omega)
    unfold pcH
    rw [Nat.pow_succ, show (w + 2 ^ n * 2) % 2 = w % 2 by omega, show (w + 2 ^ n * 2) / 2 = w / 2 + 2 ^ n by omega, ih]
    omega
theorem or_pow {w n : Nat} (h : w < 2 ^ n) : w ||| 2 ^ n = w + 2 ^ n := by
  have := Nat.two_pow_add_eq_or_of_lt h 1
  rw [Nat.mul_one] at this
  rw [Nat.or_comm, ← this, Nat.add_comm]
theorem pcH_bb (φ : Fs) : ∀ n, n ≤ 28 → pcH 30 (bbF φ n) = nbF φ n
  | 0, _ => pcH_0 30
  | n + 1, hn => by
    rw [bbF, nbF]
    split
    · rw [or_pow (bbF_lt φ n), pcH_add n 30 _ (bbF_lt φ n) (by omega), pcH_bb φ n (by omega)]
    · exact pcH_bb φ n (by omega)
theorem trn_len (φ : Fs) : (trn φ).length = φ.length := List.length_map _
theorem trn_0 {φ : Fs} (h : nbF φ φ.length = 0) : trn φ = φ := by
  have key : ∀ n, nbF φ n = 0 → ∀ i, i < n → ¬ kd φ i = 0 := by
    intro n
    induction n with
    | zero => intro _ i hi; omega
    | succ n ih =>
      intro h i hi
      rw [nbF] at h
      split at h
      · omega
      · rename_i g
        by_cases e : i = n
        · rw [e]; exact g
        · exact ih h i (by omega)
  refine List.ext_getElem? (fun i => ?_)
  unfold trn
  rw [List.getElem?_map]
  by_cases h2 : i < φ.length
  · have hk := key φ.length h i h2
    unfold kd at hk
    rw [List.getD_eq_getElem?_getD, List.getElem?_eq_getElem h2, Option.getD_some] at hk
    rw [List.getElem?_eq_getElem h2]
    show some (if _ then _ else _) = _
    rw [if_neg hk]
  · rw [List.getElem?_eq_none (by omega)]
    rfl
set_option maxHeartbeats 600000 in
set_option maxRecDepth 100000 in
theorem c_X10_turn {G : Gx} {h : Hp} {nx m : Nat} {it : Nat} {φ : Fs} {ps : List (Nat × Fs)} {im : Nat → Option (Nat × Fs)} {V : RV} {n : Nat} {T : Nat → Int} {ft : Nat} (hM : MS G h m it φ ps im V n T ft) (hS : Sm it φ) (hps : PsO ps) : Con G yX10_turn cX10_turn 4 (some .int) 3 0 0 [.ref m] h nx (PI fun z h' => z = (nbF φ φ.length : Nat) ∧ MT G h' m 0 it (trn φ) (if 0 < nbF φ φ.length then psh ps (it, φ) else ps) im V n T ft ∧ ∀ q : Nat, (q < m ∨ m + 17 < q) → h' q = h q) := by
  obtain ⟨th, s, ⟨hm, cq1, cq2, cq3, cq4, cq5, cq6, cq7, cq8, cq9, cq10, cq11, cq12, cq13, cq14, cq15, cq16, cq17⟩, hsc, hth⟩ := hM
  obtain ⟨z1, z6, z9, z14, z17, z15, z16⟩ := id hsc
  obtain ⟨N, hn, hR⟩ := id cq2
  obtain ⟨h8, h28, hsm⟩ := id hS
  have hbl := Nat.lt_of_lt_of_le (bbF_lt φ φ.length) (pow28 h28)
  have hnb := nbF_le φ φ.length
  have hpb := pcH_bb φ φ.length h28
  refine Con.of v_X10_turn.2.2.2.2.2.1 (Nat.le_of_ble_eq_true rfl) (lv := [(0, .ref m)]) rfl (fun X k => ?_)
  generalize hQQ : QM G X nx 0 0 _ = QQ
  have fr0 : ∀ q : Nat, (q ≠ m ∧ q ≠ m + 2 ∧ q ≠ m + 5) → h q = h q := fun _ _ => rfl
  refine g_aload_n k rfl dX10_turn_0 ?_
  refine g_iconst k dX10_turn_1 ?_
  refine g_put k 10 0 (C := RX10) (T := TX10) (N := 38) fl_X10_1 rfl wi_X10 tyX10 tyX10_ok nmX10 (by decide) rfl rfl rfl rfl hm (Nat.le_of_ble_eq_true rfl) (fs2 := mol m (fu s 0 0)) rfl rfl dX10_turn_2 (fun h2 eh2 => ?_)
  have hm_ : h2 m = some (mo m (fu s 0 0)) := (congrFun eh2 _).trans hup_s
  have hn_ : h2 (m + 2) = some (ai G 86 N) := (congrFun eh2 _).trans ((hup_n (by omega)).trans hn)
  have fr_ : ∀ q : Nat, (q ≠ m ∧ q ≠ m + 2 ∧ q ≠ m + 5) → h2 q = h q := fun q hq => (congrFun eh2 q).trans ((hup_n (by omega)).trans (fr0 q hq))
  refine g_aload_n k rfl dX10_turn_5 ?_
  refine g_cVi k 10 (As := []) v_X10_befores rfl rfl hm_ ml_X10_240 (c_X10_befores hm_ hn_ hR hS) (by omega) (by omega) rfl (Nat.le_of_ble_eq_true rfl) rfl dX10_turn_6 (fun r6 h6 p6 => ?_)
  obtain ⟨eh6, p6⟩ := p6
  have eh6 := eh6.symm; subst eh6
  subst p6
  refine g_cSi k (As := [vi (bbF φ φ.length : Int)]) v_X10_bits ml_X10_276 (c_X10_bits (w := bbF φ φ.length) (by omega)) (by omega) (by omega) rfl (Nat.le_of_ble_eq_true rfl) rfl dX10_turn_9 (fun r9 h9 p9 => ?_)
  obtain ⟨eh9, p9⟩ := p9
  have eh9 := eh9.symm; subst eh9
  rw [hpb] at p9
  subst p9
  refine g_istore_n k (lv2 := [(0, .ref m), (1, vi (nbF φ φ.length : Int))]) (by decide) rfl rfl dX10_turn_12 ?_
  refine g_iload_n k rfl dX10_turn_13 ?_
  refine g_if_ne k (tgt := 19) (by omega) dX10_turn_14 (by decide) (fun c14 => ?_) (fun c14 => ?_)
  · skip
    refine g_aload_n k rfl dX10_turn_19 ?_
    refine g_cVv k 10 (As := []) v_X10_snap rfl rfl hm_ ml_X10_250 (c_X10_snap hm_ hn_ hR hS (by rw [(congrFun eh2 (m + 5)).trans (hup_n (by omega))]; exact cq5) hps z9) (by omega) (by omega) rfl (Nat.le_of_ble_eq_true rfl) rfl dX10_turn_20 (fun h20 p20 => ?_)
    obtain ⟨⟨nm3, ns⟩, nfr3⟩ := p20
    have hm__1 : h20 m = some (mo m (fu (fu s 0 0) 9 ((psh ps (it, φ)).length : Int))) := nm3
    have hn__1 : h20 (m + 2) = some (ai G 86 N) := (nfr3 _ (by omega)).trans hn_
    have fr__1 : ∀ q : Nat, (q ≠ m ∧ q ≠ m + 2 ∧ q ≠ m + 5) → h20 q = h q := fun q hq => (nfr3 q (by omega)).trans (fr_ q hq)
    refine g_iconst k dX10_turn_23 ?_
    refine g_istore_n k (lv2 := [(0, .ref m), (1, vi (nbF φ φ.length : Int)), (2, vi 0)]) (by decide) rfl rfl dX10_turn_24 ?_
    have K25 : ∀ (nz : Nat) (v : Nat) (N2 : Nat → Int) (h25 : Hp) (hm__2 : h25 m = some (mo m (fu (fu s 0 0) 9 ((psh ps (it, φ)).length : Int)))) (hn__2 : h25 (m + 2) = some (ai G 86 N2)) (fr__2 : ∀ q : Nat, (q ≠ m ∧ q ≠ m + 2 ∧ q ≠ m + 5) → h25 q = h q) (hv : v ≤ φ.length) (h0 : N2 0 = it) (h1 : N2 1 = (φ.length : Int)) (hd : ∀ j, j < φ.length → N2 (2 + j) = kd φ j ∧ N2 (30 + j) = (if j < v then fi (trn φ) j else fi φ j) ∧ N2 (58 + j) = (if j < v then se (trn φ) j else se φ j)) (hs5 : h25 (m + 5) = h20 (m + 5)) (hmz : φ.length - v < nz), Go G X 4 QQ 0 0 nx 25 [(0, .ref m), (1, vi (nbF φ φ.length : Int)), (2, vi (v : Int))] [] h25 := by
      intro nz
      induction nz with
      | zero => intro v N2 h25 hm__2 hn__2 fr__2 hv h0 h1 hd hs5 hmz; exact absurd hmz (Nat.not_lt_zero _)
      | succ nz ih25 =>
        intro v N2 h25 hm__2 hn__2 fr__2 hv h0 h1 hd hs5 hmz
        refine g_iload_n k rfl dX10_turn_25 ?_
        refine g_aload_n k rfl dX10_turn_26 ?_
        refine g_cVi k 10 (As := []) v_X10_facts rfl rfl hm__2 ml_X10_237 (c1_X10_facts hm__2 hn__2 (l1 := φ.length) h1) (by omega) (by omega) rfl (Nat.le_of_ble_eq_true rfl) rfl dX10_turn_27 (fun r27 h27 p27 => ?_)
        obtain ⟨eh27, p27⟩ := p27
        have eh27 := eh27.symm; subst eh27
        subst p27
        refine g_icmp_ge k (tgt := 91) (by omega) (by omega) dX10_turn_30 (by decide) (fun c30 => ?_) (fun c30 => ?_)
        · skip
          refine g_iload_n k rfl dX10_turn_91 ?_
          rw [← hQQ]
          refine g_ireti k rfl dX10_turn_92 ?_
          rw [if_pos (by omega)]
          exact ⟨rfl, ⟨_, ⟨hm__2, ((fr__2 (m + 1) (by omega)).trans cq1), ⟨N2, hn__2, ⟨h0, by rw [trn_len]; exact h1, fun i hi => by rw [trn_len] at hi; have hdi := hd i hi; rw [if_pos (by omega), if_pos (by omega)] at hdi; rw [(trn_at hi).1]; exact hdi⟩⟩, (by rw [fr__2 (m + 3) (by omega)]; exact cq3), (by rw [fr__2 (m + 4) (by omega)]; exact cq4), (by rw [hs5]; exact ns), (by rw [fr__2 (m + 6) (by omega)]; exact cq6), (by rw [fr__2 (m + 7) (by omega)]; exact cq7), (by rw [fr__2 (m + 8) (by omega)]; exact cq8), (by rw [fr__2 (m + 9) (by omega)]; exact cq9), (by rw [fr__2 (m + 10) (by omega)]; exact cq10), (by rw [fr__2 (m + 11) (by omega)]; exact cq11), (by rw [fr__2 (m + 12) (by omega)]; exact cq12), (by rw [fr__2 (m + 13) (by omega)]; exact cq13), (by rw [fr__2 (m + 14) (by omega)]; exact cq14), (by rw [fr__2 (m + 15) (by omega)]; exact cq15), (by rw [fr__2 (m + 16) (by omega)]; exact cq16), (by rw [fr__2 (m + 17) (by omega)]; exact cq17)⟩, ⟨z1, z6, rfl, z14, z17, z15, z16⟩, rfl⟩, (fun q hq => fr__2 q (by omega))⟩
        · skip
          have hb := hsm v (by omega)
          have hdv := hd v (by omega)
          rw [if_neg (by omega), if_neg (by omega)] at hdv
          obtain ⟨w1, w2, w3⟩ := hdv
          refine g_aload_n k rfl dX10_turn_33 ?_
          refine g_get k 10 10 (v := .ref (m + 2)) (C := RX10) (T := TX10) (N := 38) fl_X10_74 rfl wi_X10 (by decide) rfl hm__2 rfl dX10_turn_34 ?_
          refine g_iconst k dX10_turn_37 ?_
          refine g_iload_n k rfl dX10_turn_38 ?_
          refine g_iadd k dX10_turn_39 ?_
          refine g_iald k (2 + v) hn__2 (by omega) (by omega) (by decide) dX10_turn_40 ?_
          rw [show N2 (2 + v) = (kd φ v : Int) from w1]
          refine g_if_eq k (tgt := 47) (by omega) dX10_turn_41 (by decide) (fun c41 => ?_) (fun c41 => ?_)
          · skip
            refine g_aload_n k rfl dX10_turn_47 ?_
            refine g_get k 10 10 (v := .ref (m + 2)) (C := RX10) (T := TX10) (N := 38) fl_X10_74 rfl wi_X10 (by decide) rfl hm__2 rfl dX10_turn_48 ?_
            refine g_bipush k rfl dX10_turn_51 ?_
            refine g_iload_n k rfl dX10_turn_53 ?_
            refine g_iadd k dX10_turn_54 ?_
            refine g_iald k (30 + v) hn__2 (by omega) (by omega) (by decide) dX10_turn_55 ?_
            rw [show N2 (30 + v) = (fi φ v : Int) from w2]
            refine g_istore_n k (lv2 := [(0, .ref m), (1, vi (nbF φ φ.length : Int)), (2, vi (v : Int)), (3, vi (fi φ v : Int))]) (by decide) rfl rfl dX10_turn_56 ?_
            refine g_aload_n k rfl dX10_turn_57 ?_
            refine g_get k 10 10 (v := .ref (m + 2)) (C := RX10) (T := TX10) (N := 38) fl_X10_74 rfl wi_X10 (by decide) rfl hm__2 rfl dX10_turn_58 ?_
            refine g_bipush k rfl dX10_turn_61 ?_
            refine g_iload_n k rfl dX10_turn_63 ?_
            refine g_iadd k dX10_turn_64 ?_
            refine g_aload_n k rfl dX10_turn_65 ?_
            refine g_get k 10 10 (v := .ref (m + 2)) (C := RX10) (T := TX10) (N := 38) fl_X10_74 rfl wi_X10 (by decide) rfl hm__2 rfl dX10_turn_66 ?_
            refine g_bipush k rfl dX10_turn_69 ?_
            refine g_iload_n k rfl dX10_turn_71 ?_
            refine g_iadd k dX10_turn_72 ?_
            refine g_iald k (58 + v) hn__2 (by omega) (by omega) (by decide) dX10_turn_73 ?_
            rw [show N2 (58 + v) = (se φ v : Int) from w3]
            refine g_iast k (30 + v) hn__2 (by omega) (by omega) (by decide) dX10_turn_74 (fun h74 eh74 => ?_)
            have hm__3 : h74 m = some (mo m (fu (fu s 0 0) 9 ((psh ps (it, φ)).length : Int))) := (congrFun eh74 _).trans ((hup_n (by omega)).trans hm__2)
            have hn__3 : h74 (m + 2) = some (ai G 86 (fu N2 (30 + v) (se φ v : Int))) := (congrFun eh74 _).trans hup_s
            have fr__3 : ∀ q : Nat, (q ≠ m ∧ q ≠ m + 2 ∧ q ≠ m + 5) → h74 q = h q := fun q hq => (congrFun eh74 q).trans ((hup_n (by omega)).trans (fr__2 q hq))
            refine g_aload_n k rfl dX10_turn_75 ?_
            refine g_get k 10 10 (v := .ref (m + 2)) (C := RX10) (T := TX10) (N := 38) fl_X10_74 rfl wi_X10 (by decide) rfl hm__3 rfl dX10_turn_76 ?_
            refine g_bipush k rfl dX10_turn_79 ?_
            refine g_iload_n k rfl dX10_turn_81 ?_
            refine g_iadd k dX10_turn_82 ?_
            refine g_iload_n k rfl dX10_turn_83 ?_
            refine g_iast k (58 + v) hn__3 (by omega) (by omega) (by decide) dX10_turn_84 (fun h84 eh84 => ?_)
            have hm__4 : h84 m = some (mo m (fu (fu s 0 0) 9 ((psh ps (it, φ)).length : Int))) := (congrFun eh84 _).trans ((hup_n (by omega)).trans hm__3)
            have hn__4 : h84 (m + 2) = some (ai G 86 (fu (fu N2 (30 + v) (se φ v : Int)) (58 + v) (fi φ v : Int))) := (congrFun eh84 _).trans hup_s
            have fr__4 : ∀ q : Nat, (q ≠ m ∧ q ≠ m + 2 ∧ q ≠ m + 5) → h84 q = h q := fun q hq => (congrFun eh84 q).trans ((hup_n (by omega)).trans (fr__3 q hq))
            refine g_iinc k (lv2 := [(0, .ref m), (1, vi (nbF φ φ.length : Int)), (2, vi ((v : Int) + 1)), (3, vi (fi φ v : Int))]) rfl (by decide) rfl rfl dX10_turn_85 ?_
            refine g_goto k (tgt := 25) dX10_turn_88 (by decide) ?_
            refine g_less (lv2 := [(0, .ref m), (1, vi (nbF φ φ.length : Int)), (2, vi ((v : Int) + 1))]) ⟨rfl, rfl, rfl, trivial⟩ ?_
            exact ih25 (v + 1) _ h84 hm__4 hn__4 fr__4 (by omega) (by rw [fu_n (by omega), fu_n (by omega)]; exact h0) (by rw [fu_n (by omega), fu_n (by omega)]; exact h1) (fun j hj => by have ht := trn_at hj; by_cases e : j = v; (subst e; rw [fu_n (by omega), fu_n (by omega), fu_n (by omega), fu_s, fu_s, if_pos (by omega), if_pos (by omega), ht.2.1, ht.2.2, if_pos (by omega), if_pos (by omega)]; exact ⟨(hd j hj).1, rfl, rfl⟩); (rw [fu_n (by omega), fu_n (by omega), fu_n (by omega), fu_n (by omega), fu_n (by omega), fu_n (by omega)]; have hdj := hd j hj; by_cases e2 : j < v; (rw [if_pos e2, if_pos e2] at hdj; rw [if_pos (by omega), if_pos (by omega)]; exact hdj); (rw [if_neg e2, if_neg e2] at hdj; rw [if_neg (by omega), if_neg (by omega)]; exact hdj))) ((congrFun eh84 (m + 5)).trans ((hup_n (by omega)).trans ((congrFun eh74 (m + 5)).trans ((hup_n (by omega)).trans hs5)))) (by omega)
          · skip
            refine g_goto k (tgt := 85) dX10_turn_44 (by decide) ?_
            refine g_iinc k (lv2 := [(0, .ref m), (1, vi (nbF φ φ.length : Int)), (2, vi ((v : Int) + 1))]) rfl (by decide) rfl rfl dX10_turn_85 ?_
            refine g_goto k (tgt := 25) dX10_turn_88 (by decide) ?_
            exact ih25 (v + 1) _ h25 hm__2 hn__2 fr__2 (by omega) h0 h1 (fun j hj => by have ht := trn_at hj; have hdj := hd j hj; by_cases e : j = v; (subst e; rw [if_neg (by omega), if_neg (by omega)] at hdj; rw [if_pos (by omega), if_pos (by omega), ht.2.1, ht.2.2, if_neg (by omega), if_neg (by omega)]; exact hdj); (by_cases e2 : j < v; (rw [if_pos e2, if_pos e2] at hdj; rw [if_pos (by omega), if_pos (by omega)]; exact hdj); (rw [if_neg e2, if_neg e2] at hdj; rw [if_neg (by omega), if_neg (by omega)]; exact hdj))) hs5 (by omega)
    exact K25 _ 0 _ h20 hm__1 hn__1 fr__1 (Nat.zero_le _) hR.i hR.n (fun j hj => by rw [if_neg (by omega), if_neg (by omega)]; exact hR.2.2 j hj) rfl (Nat.lt_succ_self _)
  · skip
    refine g_iconst k dX10_turn_17 ?_
    rw [← hQQ]
    refine g_ireti k rfl dX10_turn_18 ?_
    rw [if_neg (by omega), trn_0 (by omega)]
    exact ⟨(by omega), ⟨_, ⟨hm_, ((fr_ (m + 1) (by omega)).trans cq1), ⟨N, hn_, hR⟩, (by rw [fr_ (m + 3) (by omega)]; exact cq3), (by rw [fr_ (m + 4) (by omega)]; exact cq4), (by rw [(congrFun eh2 (m + 5)).trans (hup_n (by omega))]; exact cq5), (by rw [fr_ (m + 6) (by omega)]; exact cq6), (by rw [fr_ (m + 7) (by omega)]; exact cq7), (by rw [fr_ (m + 8) (by omega)]; exact cq8), (by rw [fr_ (m + 9) (by omega)]; exact cq9), (by rw [fr_ (m + 10) (by omega)]; exact cq10), (by rw [fr_ (m + 11) (by omega)]; exact cq11), (by rw [fr_ (m + 12) (by omega)]; exact cq12), (by rw [fr_ (m + 13) (by omega)]; exact cq13), (by rw [fr_ (m + 14) (by omega)]; exact cq14), (by rw [fr_ (m + 15) (by omega)]; exact cq15), (by rw [fr_ (m + 16) (by omega)]; exact cq16), (by rw [fr_ (m + 17) (by omega)]; exact cq17)⟩, hsc, rfl⟩, (fun q hq => fr_ q (by omega))⟩

def fcO (φ : Fs) (p p2 : Int) : Prop := hasI φ.length p ∧ 0 ≤ p2 ∧ p2 ≤ 2
def fcV (φ : Fs) (p p2 : Int) : Int := if p2 = 0 then kd φ p.toNat else if p2 = 1 then fi φ p.toNat else se φ p.toNat
set_option maxHeartbeats 600000 in
set_option maxRecDepth 100000 in
theorem c_X10_fact {G : Gx} {h : Hp} {nx m : Nat} {it : Nat} {φ : Fs} {ps : List (Nat × Fs)} {im : Nat → Option (Nat × Fs)} {V : RV} {n : Nat} {T : Nat → Int} {ft : Nat} (hM : MS G h m it φ ps im V n T ft) (hS : Sm it φ) {p p2 : Int} (rp : -2147483648 ≤ p ∧ p ≤ 2147483647) (rp2 : -2147483648 ≤ p2 ∧ p2 ≤ 2147483647) : Con G yX10_fact cX10_fact 3 (some .int) 3 0 0 [.ref m, vi p, vi p2] h nx (PI fun z h' => (fcO φ p p2 → z = fcV φ p p2) ∧ (∃ t1 : Int, bz (¬ fcO φ p p2) t1 ∧ MT G h' m t1 it φ ps im V n T ft) ∧ ∀ q : Nat, (q < m ∨ m + 17 < q) → h' q = h q) := by
  obtain ⟨th, s, ⟨hm, cq1, cq2, cq3, cq4, cq5, cq6, cq7, cq8, cq9, cq10, cq11, cq12, cq13, cq14, cq15, cq16, cq17⟩, hsc, hth⟩ := hM
  obtain ⟨z1, z6, z9, z14, z17, z15, z16⟩ := id hsc
  obtain ⟨N, hn, hR⟩ := id cq2
  obtain ⟨h8, h28, hsm⟩ := id hS
  refine Con.of v_X10_fact.2.2.2.2.2.1 (Nat.le_of_ble_eq_true rfl) (lv := [(0, .ref m), (1, vi p), (2, vi p2)]) rfl (fun X k => ?_)
  generalize hQQ : QM G X nx 0 0 _ = QQ
  have fr0 : ∀ q : Nat, q ≠ m → h q = h q := fun _ _ => rfl
  refine g_aload_n k rfl dX10_fact_0 ?_
  refine g_iconst k dX10_fact_1 ?_
  refine g_put k 10 0 (C := RX10) (T := TX10) (N := 38) fl_X10_1 rfl wi_X10 tyX10 tyX10_ok nmX10 (by decide) rfl rfl rfl rfl hm (Nat.le_of_ble_eq_true rfl) (fs2 := mol m (fu s 0 0)) rfl rfl dX10_fact_2 (fun h2 eh2 => ?_)
  have hm_ : h2 m = some (mo m (fu s 0 0)) := (congrFun eh2 _).trans hup_s
  have hn_ : h2 (m + 2) = some (ai G 86 N) := (congrFun eh2 _).trans ((hup_n (by omega)).trans hn)
  have fr_ : ∀ q : Nat, q ≠ m → h2 q = h q := fun q hq => (congrFun eh2 q).trans ((hup_n (by omega)).trans (fr0 q hq))
  refine g_iload_n k rfl dX10_fact_5 ?_
  refine g_iconst k dX10_fact_6 ?_
  refine g_aload_n k rfl dX10_fact_7 ?_
  refine g_cVi k 10 (As := []) v_X10_facts rfl rfl hm_ ml_X10_237 (c_X10_facts hm_ hn_ hR hS) (by omega) (by omega) rfl (Nat.le_of_ble_eq_true rfl) rfl dX10_fact_8 (fun r8 h8 p8 => ?_)
  obtain ⟨eh8, p8⟩ := p8
  have eh8 := eh8.symm; subst eh8
  subst p8
  refine g_iconst k dX10_fact_11 ?_
  refine g_isub k dX10_fact_12 ?_
  refine g_cSi k (As := [vi p, vi 0, vi ((φ.length : Int) - 1)]) v_X10_isIn ml_X10_224 (c_X10_isIn rp (by omega) (by omega)) (by omega) (by omega) rfl (Nat.le_of_ble_eq_true rfl) rfl dX10_fact_13 (fun r13 h13 p13 => ?_)
  obtain ⟨eh13, p13⟩ := p13
  have eh13 := eh13.symm; subst eh13
  have q13 := p13
  have q13r := q13.r
  refine g_if_ne k (tgt := 24) (by omega) dX10_fact_16 (by decide) (fun c16 => ?_) (fun c16 => ?_)
  · skip
    have hh : hasI φ.length p := by have := q13.t (by omega); unfold hasI; omega
    obtain ⟨k1, ek1, hk1⟩ := nat_of hh
    have hh2 : hasI φ.length (k1 : Int) := by rw [← ek1]; exact hh
    rw [ek1]
    rw [ek1] at hQQ
    refine g_iload_n k rfl dX10_fact_24 ?_
    rcases (show p2 < 0 ∨ 2 < p2 ∨ p2 = 0 ∨ p2 = 1 ∨ p2 = 2 by omega) with c25 | c25 | c25 | c25 | c25
    · skip
      refine g_tabOut k (tgt := 81) (by omega) (by omega) dX10_fact_25 (by decide) ?_
      refine g_aload_n k rfl dX10_fact_81 ?_
      refine g_cVi k 10 (As := []) v_X10_refuse rfl rfl hm_ ml_X10_247 (c_X10_refuse hm_) (by omega) (by omega) rfl (Nat.le_of_ble_eq_true rfl) rfl dX10_fact_82 (fun r82 h82 p82 => ?_)
      obtain ⟨p82e, nm, nfr⟩ := p82
      subst p82e
      have hm__1 : h82 m = some (mo m (fu s 0 1)) := (by rw [nm]; rw [show fu (fu s 0 0) 0 1 = fu s 0 1 by funext j; unfold fu; split <;> rfl])
      have hn__1 : h82 (m + 2) = some (ai G 86 N) := (nfr _ (by omega)).trans hn_
      have fr__1 : ∀ q : Nat, q ≠ m → h82 q = h q := fun q hq => (nfr q (by omega)).trans (fr_ q hq)
      rw [← hQQ]
      refine g_ireti k rfl dX10_fact_85 ?_
      exact ⟨fun q => by have := q.2; omega, ⟨1, bz.y (fun q => by have := q.2; omega), ⟨_, ⟨hm__1, ((fr__1 (m + 1) (by omega)).trans cq1), ⟨N, hn__1, hR⟩, (by rw [fr__1 (m + 3) (by omega)]; exact cq3), (by rw [fr__1 (m + 4) (by omega)]; exact cq4), (by rw [fr__1 (m + 5) (by omega)]; exact cq5), (by rw [fr__1 (m + 6) (by omega)]; exact cq6), (by rw [fr__1 (m + 7) (by omega)]; exact cq7), (by rw [fr__1 (m + 8) (by omega)]; exact cq8), (by rw [fr__1 (m + 9) (by omega)]; exact cq9), (by rw [fr__1 (m + 10) (by omega)]; exact cq10), (by rw [fr__1 (m + 11) (by omega)]; exact cq11), (by rw [fr__1 (m + 12) (by omega)]; exact cq12), (by rw [fr__1 (m + 13) (by omega)]; exact cq13), (by rw [fr__1 (m + 14) (by omega)]; exact cq14), (by rw [fr__1 (m + 15) (by omega)]; exact cq15), (by rw [fr__1 (m + 16) (by omega)]; exact cq16), (by rw [fr__1 (m + 17) (by omega)]; exact cq17)⟩, hsc, rfl⟩⟩, (fun q hq => fr__1 q (by omega))⟩
    · skip
      refine g_tabOut k (tgt := 81) (by omega) (by omega) dX10_fact_25 (by decide) ?_
      refine g_aload_n k rfl dX10_fact_81 ?_
      refine g_cVi k 10 (As := []) v_X10_refuse rfl rfl hm_ ml_X10_247 (c_X10_refuse hm_) (by omega) (by omega) rfl (Nat.le_of_ble_eq_true rfl) rfl dX10_fact_82 (fun r82_1 h82_1 p82_1 => ?_)
      obtain ⟨p82_1e, nm, nfr⟩ := p82_1
      subst p82_1e
      have hm__2 : h82_1 m = some (mo m (fu s 0 1)) := (by rw [nm]; rw [show fu (fu s 0 0) 0 1 = fu s 0 1 by funext j; unfold fu; split <;> rfl])
      have hn__2 : h82_1 (m + 2) = some (ai G 86 N) := (nfr _ (by omega)).trans hn_
      have fr__2 : ∀ q : Nat, q ≠ m → h82_1 q = h q := fun q hq => (nfr q (by omega)).trans (fr_ q hq)
      rw [← hQQ]
      refine g_ireti k rfl dX10_fact_85 ?_
      exact ⟨fun q => by have := q.2; omega, ⟨1, bz.y (fun q => by have := q.2; omega), ⟨_, ⟨hm__2, ((fr__2 (m + 1) (by omega)).trans cq1), ⟨N, hn__2, hR⟩, (by rw [fr__2 (m + 3) (by omega)]; exact cq3), (by rw [fr__2 (m + 4) (by omega)]; exact cq4), (by rw [fr__2 (m + 5) (by omega)]; exact cq5), (by rw [fr__2 (m + 6) (by omega)]; exact cq6), (by rw [fr__2 (m + 7) (by omega)]; exact cq7), (by rw [fr__2 (m + 8) (by omega)]; exact cq8), (by rw [fr__2 (m + 9) (by omega)]; exact cq9), (by rw [fr__2 (m + 10) (by omega)]; exact cq10), (by rw [fr__2 (m + 11) (by omega)]; exact cq11), (by rw [fr__2 (m + 12) (by omega)]; exact cq12), (by rw [fr__2 (m + 13) (by omega)]; exact cq13), (by rw [fr__2 (m + 14) (by omega)]; exact cq14), (by rw [fr__2 (m + 15) (by omega)]; exact cq15), (by rw [fr__2 (m + 16) (by omega)]; exact cq16), (by rw [fr__2 (m + 17) (by omega)]; exact cq17)⟩, hsc, rfl⟩⟩, (fun q hq => fr__2 q (by omega))⟩
    · skip
      refine g_tabIn k (off := 27) (tgt := 52) (by omega) (by omega) (by omega) (by rw [c25]; rfl) dX10_fact_25 (by decide) ?_
      refine g_aload_n k rfl dX10_fact_52 ?_
      refine g_get k 10 10 (v := .ref (m + 2)) (C := RX10) (T := TX10) (N := 38) fl_X10_74 rfl wi_X10 (by decide) rfl hm_ rfl dX10_fact_53 ?_
      refine g_iconst k dX10_fact_56 ?_
      refine g_iload_n k rfl dX10_fact_57 ?_
      refine g_iadd k dX10_fact_58 ?_
      refine g_iald k (2 + k1) hn_ (by omega) (by omega) (by decide) dX10_fact_59 ?_
      rw [show N (2 + k1) = (kd (φ) k1 : Int) from hR.k (by omega)]
      rw [← hQQ]
      refine g_ireti k rfl dX10_fact_60 ?_
      exact ⟨fun _ => by unfold fcV; rw [if_pos (by omega), Int.toNat_natCast], ⟨0, bz.n (fun q => q ⟨hh2, by omega, by omega⟩), ⟨_, ⟨hm_, ((fr_ (m + 1) (by omega)).trans cq1), ⟨N, hn_, hR⟩, (by rw [fr_ (m + 3) (by omega)]; exact cq3), (by rw [fr_ (m + 4) (by omega)]; exact cq4), (by rw [fr_ (m + 5) (by omega)]; exact cq5), (by rw [fr_ (m + 6) (by omega)]; exact cq6), (by rw [fr_ (m + 7) (by omega)]; exact cq7), (by rw [fr_ (m + 8) (by omega)]; exact cq8), (by rw [fr_ (m + 9) (by omega)]; exact cq9), (by rw [fr_ (m + 10) (by omega)]; exact cq10), (by rw [fr_ (m + 11) (by omega)]; exact cq11), (by rw [fr_ (m + 12) (by omega)]; exact cq12), (by rw [fr_ (m + 13) (by omega)]; exact cq13), (by rw [fr_ (m + 14) (by omega)]; exact cq14), (by rw [fr_ (m + 15) (by omega)]; exact cq15), (by rw [fr_ (m + 16) (by omega)]; exact cq16), (by rw [fr_ (m + 17) (by omega)]; exact cq17)⟩, hsc, rfl⟩⟩, (fun q hq => fr_ q (by omega))⟩
    · skip
      refine g_tabIn k (off := 36) (tgt := 61) (by omega) (by omega) (by omega) (by rw [c25]; rfl) dX10_fact_25 (by decide) ?_
      refine g_aload_n k rfl dX10_fact_61 ?_
      refine g_get k 10 10 (v := .ref (m + 2)) (C := RX10) (T := TX10) (N := 38) fl_X10_74 rfl wi_X10 (by decide) rfl hm_ rfl dX10_fact_62 ?_
      refine g_bipush k rfl dX10_fact_65 ?_
      refine g_iload_n k rfl dX10_fact_67 ?_
      refine g_iadd k dX10_fact_68 ?_
      refine g_iald k (30 + k1) hn_ (by omega) (by omega) (by decide) dX10_fact_69 ?_
      rw [show N (30 + k1) = (fi (φ) k1 : Int) from hR.f (by omega)]
      rw [← hQQ]
      refine g_ireti k rfl dX10_fact_70 ?_
      exact ⟨fun _ => by unfold fcV; rw [if_neg (by omega), if_pos (by omega), Int.toNat_natCast], ⟨0, bz.n (fun q => q ⟨hh2, by omega, by omega⟩), ⟨_, ⟨hm_, ((fr_ (m + 1) (by omega)).trans cq1), ⟨N, hn_, hR⟩, (by rw [fr_ (m + 3) (by omega)]; exact cq3), (by rw [fr_ (m + 4) (by omega)]; exact cq4), (by rw [fr_ (m + 5) (by omega)]; exact cq5), (by rw [fr_ (m + 6) (by omega)]; exact cq6), (by rw [fr_ (m + 7) (by omega)]; exact cq7), (by rw [fr_ (m + 8) (by omega)]; exact cq8), (by rw [fr_ (m + 9) (by omega)]; exact cq9), (by rw [fr_ (m + 10) (by omega)]; exact cq10), (by rw [fr_ (m + 11) (by omega)]; exact cq11), (by rw [fr_ (m + 12) (by omega)]; exact cq12), (by rw [fr_ (m + 13) (by omega)]; exact cq13), (by rw [fr_ (m + 14) (by omega)]; exact cq14), (by rw [fr_ (m + 15) (by omega)]; exact cq15), (by rw [fr_ (m + 16) (by omega)]; exact cq16), (by rw [fr_ (m + 17) (by omega)]; exact cq17)⟩, hsc, rfl⟩⟩, (fun q hq => fr_ q (by omega))⟩
    · skip
      refine g_tabIn k (off := 46) (tgt := 71) (by omega) (by omega) (by omega) (by rw [c25]; rfl) dX10_fact_25 (by decide) ?_
      refine g_aload_n k rfl dX10_fact_71 ?_
      refine g_get k 10 10 (v := .ref (m + 2)) (C := RX10) (T := TX10) (N := 38) fl_X10_74 rfl wi_X10 (by decide) rfl hm_ rfl dX10_fact_72 ?_
      refine g_bipush k rfl dX10_fact_75 ?_
      refine g_iload_n k rfl dX10_fact_77 ?_
      refine g_iadd k dX10_fact_78 ?_
      refine g_iald k (58 + k1) hn_ (by omega) (by omega) (by decide) dX10_fact_79 ?_
      rw [show N (58 + k1) = (se (φ) k1 : Int) from hR.s (by omega)]
      rw [← hQQ]
      refine g_ireti k rfl dX10_fact_80 ?_
      exact ⟨fun _ => by unfold fcV; rw [if_neg (by omega), if_neg (by omega), Int.toNat_natCast], ⟨0, bz.n (fun q => q ⟨hh2, by omega, by omega⟩), ⟨_, ⟨hm_, ((fr_ (m + 1) (by omega)).trans cq1), ⟨N, hn_, hR⟩, (by rw [fr_ (m + 3) (by omega)]; exact cq3), (by rw [fr_ (m + 4) (by omega)]; exact cq4), (by rw [fr_ (m + 5) (by omega)]; exact cq5), (by rw [fr_ (m + 6) (by omega)]; exact cq6), (by rw [fr_ (m + 7) (by omega)]; exact cq7), (by rw [fr_ (m + 8) (by omega)]; exact cq8), (by rw [fr_ (m + 9) (by omega)]; exact cq9), (by rw [fr_ (m + 10) (by omega)]; exact cq10), (by rw [fr_ (m + 11) (by omega)]; exact cq11), (by rw [fr_ (m + 12) (by omega)]; exact cq12), (by rw [fr_ (m + 13) (by omega)]; exact cq13), (by rw [fr_ (m + 14) (by omega)]; exact cq14), (by rw [fr_ (m + 15) (by omega)]; exact cq15), (by rw [fr_ (m + 16) (by omega)]; exact cq16), (by rw [fr_ (m + 17) (by omega)]; exact cq17)⟩, hsc, rfl⟩⟩, (fun q hq => fr_ q (by omega))⟩
  · skip
    have hh : ¬ hasI φ.length p := fun g => q13.f (by omega) (by unfold hasI at g; omega)
    refine g_aload_n k rfl dX10_fact_19 ?_
    refine g_cVi k 10 (As := []) v_X10_refuse rfl rfl hm_ ml_X10_247 (c_X10_refuse hm_) (by omega) (by omega) rfl (Nat.le_of_ble_eq_true rfl) rfl dX10_fact_20 (fun r20 h20 p20 => ?_)
    obtain ⟨p20e, nm, nfr⟩ := p20
    subst p20e
    have hm__3 : h20 m = some (mo m (fu s 0 1)) := (by rw [nm]; rw [show fu (fu s 0 0) 0 1 = fu s 0 1 by funext j; unfold fu; split <;> rfl])
    have hn__3 : h20 (m + 2) = some (ai G 86 N) := (nfr _ (by omega)).trans hn_
    have fr__3 : ∀ q : Nat, q ≠ m → h20 q = h q := fun q hq => (nfr q (by omega)).trans (fr_ q hq)
    rw [← hQQ]
    refine g_ireti k rfl dX10_fact_23 ?_
    exact ⟨fun q => absurd q.1 hh, ⟨1, bz.y (fun q => hh q.1), ⟨_, ⟨hm__3, ((fr__3 (m + 1) (by omega)).trans cq1), ⟨N, hn__3, hR⟩, (by rw [fr__3 (m + 3) (by omega)]; exact cq3), (by rw [fr__3 (m + 4) (by omega)]; exact cq4), (by rw [fr__3 (m + 5) (by omega)]; exact cq5), (by rw [fr__3 (m + 6) (by omega)]; exact cq6), (by rw [fr__3 (m + 7) (by omega)]; exact cq7), (by rw [fr__3 (m + 8) (by omega)]; exact cq8), (by rw [fr__3 (m + 9) (by omega)]; exact cq9), (by rw [fr__3 (m + 10) (by omega)]; exact cq10), (by rw [fr__3 (m + 11) (by omega)]; exact cq11), (by rw [fr__3 (m + 12) (by omega)]; exact cq12), (by rw [fr__3 (m + 13) (by omega)]; exact cq13), (by rw [fr__3 (m + 14) (by omega)]; exact cq14), (by rw [fr__3 (m + 15) (by omega)]; exact cq15), (by rw [fr__3 (m + 16) (by omega)]; exact cq16), (by rw [fr__3 (m + 17) (by omega)]; exact cq17)⟩, hsc, rfl⟩⟩, (fun q hq => fr__3 q (by omega))⟩

