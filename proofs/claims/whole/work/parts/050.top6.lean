/-! ahead, greatest, chain, crowd, room, shape, rank, shapes -/
theorem bgn_ok {φ : Fs} {it L : Nat} (h8 : it ≤ 8) (hL : isL φ it L) : OK8 (bgn φ it L) it := ⟨h8, fun v hv => by
  have h := ely_bd (M := str φ L it) (i := v) (B := 15360) (str_bd h8 (by have := hL.1; have := hL.2.1; omega)) (by omega) (by omega) it h8
  unfold bgn
  omega⟩
theorem ct_mono {p q : Nat → Prop} : ∀ n, (∀ j, j < n → p j → q j) → ct p n ≤ ct q n
  | 0, _ => Nat.le_refl 0
  | n + 1, h => by
    have ih := ct_mono n (fun j hj => h j (by omega))
    unfold ct
    by_cases c : p n
    · rw [if_pos c, if_pos (h n (by omega) c)]; omega
    · rw [if_neg c]; split <;> omega
theorem ct_all {p : Nat → Prop} : ∀ n, (∀ j, j < n → p j) → ct p n = n
  | 0, _ => rfl
  | n + 1, h => by unfold ct; rw [if_pos (h n (by omega)), ct_all n (fun j hj => h j (by omega))]
theorem ct_pre {p : Nat → Prop} {m : Nat} : ∀ n, (∀ j, j < n → p j → j < m) → ct p n ≤ m
  | 0, _ => Nat.zero_le m
  | n + 1, h => by
    by_cases c : p n
    · have h1 := h n (by omega) c
      exact Nat.le_trans (ct_le p (n + 1)) (by omega)
    · unfold ct; rw [if_neg c]; exact ct_pre n (fun j hj => h j (by omega))
theorem cah_low {B : Nat → Int} {L : Int} {it t : Nat} (hL : 1 ≤ L) (hB : ∀ v, v < it → 0 ≤ B v) : ∀ (k v : Nat), v < it → B v ≤ k → ¬ cah B L it v ≤ t → t + 1 ≤ ct (fun u => cah B L it u ≤ t) it
  | k, v, hv, hk, hn => by
    by_cases c : ∀ u, u < it → pre B L u v → cah B L it u ≤ t
    · have h1 := ct_mono (p := fun u => pre B L u v) (q := fun u => cah B L it u ≤ t) it c
      have h2 : cah B L it v = ct (fun u => pre B L u v) it := rfl
      omega
    · simp only [Classical.not_forall] at c
      obtain ⟨u, hu, hp, hc⟩ := c
      unfold pre at hp
      have := hB u hu
      match k, hk with
      | 0, hk => exact absurd hk (by omega)
      | k + 1, hk => exact cah_low hL hB k u hu (by omega) hc
theorem Std.low {B : Nat → Int} {L : Int} {it : Nat} {P : Nat → Nat} (hL : 1 ≤ L) (hB : ∀ v, v < it → 0 ≤ B v) (h : Std P (cah B L it) it) : ∀ i, i < it → P i ≤ i := fun i hi => by
  rcases Nat.lt_or_ge i (P i) with c | c
  · have h1 : ct (fun j => P j ≤ i) it ≤ i := ct_pre it (fun j hj hp => by
      rcases Nat.lt_or_ge j i with q | q
      · exact q
      · rcases (show i = j ∨ i < j by omega) with e | e
        · subst e; omega
        · have := h.1 i j e hj; omega)
    rw [h.2.2 i] at h1
    by_cases c2 : ∀ v, v < it → cah B L it v ≤ i
    · rw [ct_all it c2] at h1; omega
    · simp only [Classical.not_forall] at c2
      obtain ⟨v, hv, hc⟩ := c2
      have h2 := cah_low hL hB (B v).toNat v hv (by have := hB v hv; omega) hc
      omega
  · exact c
set_option maxHeartbeats 600000 in
set_option maxRecDepth 100000 in
theorem c_X9_ahead {G : Gx} {h : Hp} {nx x : Nat} {it : Nat} {φ : Fs} {ps : List (Nat × Fs)} {im : Nat → Option (Nat × Fs)} {V : RV} {n : Nat} {T : Nat → Int} {ft : Nat} (hS : SF G h x it φ ps im V n T ft) (hSm : Sm it φ) {L : Nat} (hL : isL φ it L) {p p2 : Int} (rp : -2147483648 ≤ p ∧ p ≤ 2147483647) (rp2 : -2147483648 ≤ p2 ∧ p2 ≤ 2147483647) : Con G yX9_ahead cX9_ahead 3 (some .int) 5 0 0 [.ref x, vi p, vi p2] h nx (PI fun z h' => (((hasI it p ∧ hasI it p2) → bz (pre (bgn φ it L) L p.toNat p2.toNat) z) ∧ (¬ (hasI it p ∧ hasI it p2) → z = -1)) ∧ SF G h' x it φ ps im V n T ft ∧ ∀ q : Nat, (q < x ∨ x + 140 < q) → h' q = h q) := by
  obtain ⟨⟨sd, hx⟩, cF, cM, cP, cI, cV, cK, cR, cO, cW, cS, cZ, cT, cD⟩ := id hS
  have cF : FA G h (x + 1) it φ := cF
  have cP : PA G h (x + 9) ps := cP
  have cV : GV G h (x + 53) V := cV
  have cT : TA G h (x + 133) n T := cT
  have hf := cF.ob
  have hp := cP.ob
  have hv := cV.ob
  have ht := cT.1
  obtain ⟨⟨L0, g0, i0, RO, PR, ST, QU, hOA⟩, itO, MO, hRO⟩ := cO
  have hOA : OA G h (x + 61) L0 g0 i0 RO PR ST QU := hOA
  have ho := hOA.1
  have h8 := hSm.1
  have hOK := bgn_ok h8 hL
  have hl1 := hL.1
  have hl2 := hL.2.1
  refine Con.of v_X9_ahead.2.2.2.2.2.1 (Nat.le_of_ble_eq_true rfl) (lv := [(0, .ref x), (1, vi p), (2, vi p2)]) rfl (fun X k => ?_)
  generalize hQQ : QM G X nx 0 0 _ = QQ
  have fr0 : ∀ q : Nat, (q < x ∨ x + 140 < q) → h q = h q := fun _ _ => rfl
  refine g_aload_n k rfl dX9_ahead_0 ?_
  refine g_get k 9 0 (C := RX9) (T := TX9) (N := 15) fl_X9_12 rfl wi_X9 (by decide) rfl hx rfl dX9_ahead_1 ?_
  refine g_iload_n k rfl dX9_ahead_4 ?_
  refine g_cVi k 0 (As := [vi p]) v_X0_hasItem rfl rfl hf ml_X9_192 (c_X0_hasItem cF hSm rp) (by omega) (by omega) rfl (Nat.le_of_ble_eq_true rfl) rfl dX9_ahead_5 (fun r5 h5 p5 => ?_)
  obtain ⟨eh5, p5⟩ := p5
  have eh5 := eh5.symm; subst eh5
  have q5 := p5
  have q5r := q5.r
  refine g_if_eq k (tgt := 22) (by omega) dX9_ahead_8 (by decide) (fun c8 => ?_) (fun c8 => ?_)
  · skip
    refine g_iconst k dX9_ahead_22 ?_
    rw [← hQQ]
    refine g_ireti k rfl dX9_ahead_23 ?_
    exact ⟨⟨fun q => absurd q.1 (q5.f (by omega)), fun _ => rfl⟩, hS, fr0⟩
  · skip
    have hh := q5.t (by omega)
    obtain ⟨k1, ek1, hk1⟩ := nat_of hh
    rw [ek1]
    refine g_aload_n k rfl dX9_ahead_11 ?_
    refine g_get k 9 0 (C := RX9) (T := TX9) (N := 15) fl_X9_12 rfl wi_X9 (by decide) rfl hx rfl dX9_ahead_12 ?_
    refine g_iload_n k rfl dX9_ahead_15 ?_
    refine g_cVi k 0 (As := [vi p2]) v_X0_hasItem rfl rfl hf ml_X9_192 (c_X0_hasItem cF hSm rp2) (by omega) (by omega) rfl (Nat.le_of_ble_eq_true rfl) rfl dX9_ahead_16 (fun r16 h16 p16 => ?_)
    obtain ⟨eh16, p16⟩ := p16
    have eh16 := eh16.symm; subst eh16
    have q16 := p16
    have q16r := q16.r
    refine g_if_ne k (tgt := 24) (by omega) dX9_ahead_19 (by decide) (fun c19 => ?_) (fun c19 => ?_)
    · skip
      have hh2 := q16.t (by omega)
      obtain ⟨k2, ek2, hk2⟩ := nat_of hh2
      rw [ek2]
      rw [show p.toNat = k1 by omega, show p2.toNat = k2 by omega] at hQQ
      refine g_aload_n k rfl dX9_ahead_24 ?_
      refine g_get k 9 8 (C := RX9) (T := TX9) (N := 15) fl_X9_54 rfl wi_X9 (by decide) rfl hx rfl dX9_ahead_25 ?_
      refine g_aload_n k rfl dX9_ahead_28 ?_
      refine g_get k 9 0 (C := RX9) (T := TX9) (N := 15) fl_X9_12 rfl wi_X9 (by decide) rfl hx rfl dX9_ahead_29 ?_
      refine g_cVv k 1 (As := [.ref (x + 1)]) v_X1_lay rfl rfl ho ml_X9_127 (c_X1_lay hOA hRO cF hSm (by omega) hL) (by omega) (by omega) rfl (Nat.le_of_ble_eq_true rfl) rfl dX9_ahead_32 (fun h32 p32 => ?_)
      obtain ⟨⟨ST2, nO, hST⟩, nRO, nfr⟩ := p32
      have hx_ : h32 x = some (ob 9 [.ref (x + 1), .ref (x + 5), .ref (x + 9), .ref (x + 43), .ref (x + 52), .ref (x + 53), .ref (x + 56), .ref (x + 59), .ref (x + 61), .ref (x + 68), .ref (x + 130), .ref (x + 132), .ref (x + 133), .ref (x + 135), vi sd]) := (nfr _ (by omega)).trans hx
      have hf_ : h32 (x + 1) = some (ob 0 [vi (it : Int), vi (φ.length : Int), .ref (x + 1 + 1), .ref (x + 1 + 2), .ref (x + 1 + 3)]) := (nfr _ (by omega)).trans hf
      have ho_ : h32 (x + 61) = some (ob 1 [vi (L : Int), vi g0, .ref (x + 61 + 1), .ref (x + 61 + 2), vi (it : Int), .ref (x + 61 + 3), .ref (x + 61 + 4), .ref (x + 61 + 5)]) := nO.1
      have fr_ : ∀ q : Nat, (q < x ∨ x + 140 < q) → h32 q = h q := fun q hq => (nfr q (by omega)).trans (fr0 q hq)
      have hS1 := hS.sO (h' := h32) ⟨⟨_, _, _, _, _, _, _, nO⟩, _, _, nRO⟩ (fun q g => nfr q (by omega))
      refine g_aload_n k rfl dX9_ahead_35 ?_
      refine g_get k 9 8 (C := RX9) (T := TX9) (N := 15) fl_X9_54 rfl wi_X9 (by decide) rfl hx_ rfl dX9_ahead_36 ?_
      refine g_iload_n k rfl dX9_ahead_39 ?_
      refine g_iload_n k rfl dX9_ahead_40 ?_
      refine g_cVi k 1 (As := [vi (k1 : Int), vi (k2 : Int)]) v_X1_precedes rfl rfl ho_ ml_X9_230 (c_X1_precedes nO rfl hOK hST (by omega) (x := k1) (y := k2) hk1 hk2) (by omega) (by omega) rfl (Nat.le_of_ble_eq_true rfl) rfl dX9_ahead_41 (fun r41 h41 p41 => ?_)
      obtain ⟨eh41, p41⟩ := p41
      have eh41 := eh41.symm; subst eh41
      have q41 := p41
      have q41r := q41.r
      refine g_if_eq k (tgt := 51) (by omega) dX9_ahead_44 (by decide) (fun c44 => ?_) (fun c44 => ?_)
      · skip
        refine g_iconst k dX9_ahead_51 ?_
        rw [← hQQ]
        refine g_ireti k rfl dX9_ahead_52 ?_
        exact ⟨⟨fun _ => bz.n (q41.f (by omega)), fun q => absurd ⟨hh, hh2⟩ q⟩, hS1, fr_⟩
      · skip
        refine g_iconst k dX9_ahead_47 ?_
        refine g_goto k (tgt := 52) dX9_ahead_48 (by decide) ?_
        rw [← hQQ]
        refine g_ireti k rfl dX9_ahead_52 ?_
        exact ⟨⟨fun _ => bz.y (q41.t (by omega)), fun q => absurd ⟨hh, hh2⟩ q⟩, hS1, fr_⟩
    · skip
      refine g_iconst k dX9_ahead_22 ?_
      rw [← hQQ]
      refine g_ireti k rfl dX9_ahead_23 ?_
      exact ⟨⟨fun q => absurd q.2 (q16.f (by omega)), fun _ => rfl⟩, hS, fr0⟩

set_option maxHeartbeats 600000 in
set_option maxRecDepth 100000 in
theorem c_X9_greatest {G : Gx} {h : Hp} {nx x : Nat} {it : Nat} {φ : Fs} {ps : List (Nat × Fs)} {im : Nat → Option (Nat × Fs)} {V : RV} {n : Nat} {T : Nat → Int} {ft : Nat} (hS : SF G h x it φ ps im V n T ft) (hSm : Sm it φ) {L : Nat} (hL : isL φ it L) {p : Int} (rp : -2147483648 ≤ p ∧ p ≤ 2147483647) {ch : Prop} {cz : Int} (hc : bz ch cz) : Con G yX9_greatest cX9_greatest 4 (some .int) 5 0 0 [.ref x, vi p, vi cz] h nx (PI fun z h' => ((p = 0 → z = (pc8 (gsF (fun s => unF (bgn φ it L) L it s ch) (2 ^ it)) : Nat)) ∧ (p = 1 → z = (gsF (fun s => unF (bgn φ it L) L it s ch) (2 ^ it) : Nat)) ∧ (¬ (p = 0 ∨ p = 1) → z = -1)) ∧ SF G h' x it φ ps im V n T ft ∧ ∀ q : Nat, (q < x ∨ x + 140 < q) → h' q = h q) := by
  obtain ⟨⟨sd, hx⟩, cF, cM, cP, cI, cV, cK, cR, cO, cW, cS, cZ, cT, cD⟩ := id hS
  have cF : FA G h (x + 1) it φ := cF
  have cP : PA G h (x + 9) ps := cP
  have cV : GV G h (x + 53) V := cV
  have cT : TA G h (x + 133) n T := cT
  have hf := cF.ob
  have hp := cP.ob
  have hv := cV.ob
  have ht := cT.1
  obtain ⟨⟨L0, g0, i0, RO, PR, ST, QU, hOA⟩, itO, MO, hRO⟩ := cO
  have hOA : OA G h (x + 61) L0 g0 i0 RO PR ST QU := hOA
  have ho := hOA.1
  have h8 := hSm.1
  have hOK := bgn_ok h8 hL
  have hl1 := hL.1
  have hl2 := hL.2.1
  have hcr := hc.r
  have hgl := gsF_lt (fun s => unF (bgn φ it L) L it s ch) (2 ^ it)
  have hpw := pw8 (n := it) h8
  have hpl := pc8_le (gsF (fun s => unF (bgn φ it L) L it s ch) (2 ^ it))
  refine Con.of v_X9_greatest.2.2.2.2.2.1 (Nat.le_of_ble_eq_true rfl) (lv := [(0, .ref x), (1, vi p), (2, vi cz)]) rfl (fun X k => ?_)
  generalize hQQ : QM G X nx 0 0 _ = QQ
  have fr0 : ∀ q : Nat, (q < x ∨ x + 140 < q) → h q = h q := fun _ _ => rfl
  refine g_iload_n k rfl dX9_greatest_0 ?_
  refine g_if_lt k (tgt := 9) (by omega) dX9_greatest_1 (by decide) (fun c1 => ?_) (fun c1 => ?_)
  · skip
    refine g_iconst k dX9_greatest_9 ?_
    rw [← hQQ]
    refine g_ireti k rfl dX9_greatest_10 ?_
    exact ⟨⟨fun q => by omega, fun q => by omega, fun _ => rfl⟩, hS, fr0⟩
  · skip
    refine g_iload_n k rfl dX9_greatest_4 ?_
    refine g_iconst k dX9_greatest_5 ?_
    refine g_icmp_le k (tgt := 11) (by omega) (by omega) dX9_greatest_6 (by decide) (fun c6 => ?_) (fun c6 => ?_)
    · skip
      refine g_aload_n k rfl dX9_greatest_11 ?_
      refine g_get k 9 8 (C := RX9) (T := TX9) (N := 15) fl_X9_54 rfl wi_X9 (by decide) rfl hx rfl dX9_greatest_12 ?_
      refine g_aload_n k rfl dX9_greatest_15 ?_
      refine g_get k 9 0 (C := RX9) (T := TX9) (N := 15) fl_X9_12 rfl wi_X9 (by decide) rfl hx rfl dX9_greatest_16 ?_
      refine g_cVv k 1 (As := [.ref (x + 1)]) v_X1_lay rfl rfl ho ml_X9_127 (c_X1_lay hOA hRO cF hSm (by omega) hL) (by omega) (by omega) rfl (Nat.le_of_ble_eq_true rfl) rfl dX9_greatest_19 (fun h19 p19 => ?_)
      obtain ⟨⟨ST2, nO, hST⟩, nRO, nfr⟩ := p19
      have hx_ : h19 x = some (ob 9 [.ref (x + 1), .ref (x + 5), .ref (x + 9), .ref (x + 43), .ref (x + 52), .ref (x + 53), .ref (x + 56), .ref (x + 59), .ref (x + 61), .ref (x + 68), .ref (x + 130), .ref (x + 132), .ref (x + 133), .ref (x + 135), vi sd]) := (nfr _ (by omega)).trans hx
      have hf_ : h19 (x + 1) = some (ob 0 [vi (it : Int), vi (φ.length : Int), .ref (x + 1 + 1), .ref (x + 1 + 2), .ref (x + 1 + 3)]) := (nfr _ (by omega)).trans hf
      have ho_ : h19 (x + 61) = some (ob 1 [vi (L : Int), vi g0, .ref (x + 61 + 1), .ref (x + 61 + 2), vi (it : Int), .ref (x + 61 + 3), .ref (x + 61 + 4), .ref (x + 61 + 5)]) := nO.1
      have fr_ : ∀ q : Nat, (q < x ∨ x + 140 < q) → h19 q = h q := fun q hq => (nfr q (by omega)).trans (fr0 q hq)
      have hS1 := hS.sO (h' := h19) ⟨⟨_, _, _, _, _, _, _, nO⟩, _, _, nRO⟩ (fun q g => nfr q (by omega))
      refine g_aload_n k rfl dX9_greatest_22 ?_
      refine g_get k 9 8 (C := RX9) (T := TX9) (N := 15) fl_X9_54 rfl wi_X9 (by decide) rfl hx_ rfl dX9_greatest_23 ?_
      refine g_iload_n k rfl dX9_greatest_26 ?_
      refine g_cVi k 1 (As := [vi cz]) v_X1_greatestSet rfl rfl ho_ ml_X9_310 (c_X1_greatestSet nO rfl hOK hST (by omega) hc) (by omega) (by omega) rfl (Nat.le_of_ble_eq_true rfl) rfl dX9_greatest_27 (fun r27 h27 p27 => ?_)
      obtain ⟨eh27, p27⟩ := p27
      have eh27 := eh27.symm; subst eh27
      subst p27
      refine g_istore_n k (lv2 := [(0, .ref x), (1, vi p), (2, vi cz), (3, vi (gsF (fun s => unF (bgn φ it L) L it s ch) (2 ^ it) : Int))]) (by decide) rfl rfl dX9_greatest_30 ?_
      refine g_iload_n k rfl dX9_greatest_31 ?_
      refine g_if_ne k (tgt := 42) (by omega) dX9_greatest_32 (by decide) (fun c32 => ?_) (fun c32 => ?_)
      · skip
        refine g_iload_n k rfl dX9_greatest_42 ?_
        rw [← hQQ]
        refine g_ireti k rfl dX9_greatest_43 ?_
        exact ⟨⟨fun q => by omega, fun q => rfl, fun q => by omega⟩, hS1, fr_⟩
      · skip
        refine g_iload_n k rfl dX9_greatest_35 ?_
        refine g_cSi k (As := [vi (gsF (fun s => unF (bgn φ it L) L it s ch) (2 ^ it) : Int)]) v_J6_bitCount_0f7a4 ml_X9_222 (c_J6_bitCount (n := gsF (fun s => unF (bgn φ it L) L it s ch) (2 ^ it)) (by omega)) (by omega) (by omega) rfl (Nat.le_of_ble_eq_true rfl) rfl dX9_greatest_36 (fun r36 h36 p36 => ?_)
        obtain ⟨eh36, p36⟩ := p36
        have eh36 := eh36.symm; subst eh36
        subst p36
        refine g_goto k (tgt := 43) dX9_greatest_39 (by decide) ?_
        rw [← hQQ]
        refine g_ireti k rfl dX9_greatest_43 ?_
        exact ⟨⟨fun q => rfl, fun q => by omega, fun q => by omega⟩, hS1, fr_⟩
    · skip
      refine g_iconst k dX9_greatest_9 ?_
      rw [← hQQ]
      refine g_ireti k rfl dX9_greatest_10 ?_
      exact ⟨⟨fun q => by omega, fun q => by omega, fun _ => rfl⟩, hS, fr0⟩

set_option maxHeartbeats 600000 in
set_option maxRecDepth 100000 in
theorem c_X9_chain {G : Gx} {h : Hp} {nx x : Nat} {it : Nat} {φ : Fs} {ps : List (Nat × Fs)} {im : Nat → Option (Nat × Fs)} {V : RV} {n : Nat} {T : Nat → Int} {ft : Nat} (hS : SF G h x it φ ps im V n T ft) (hSm : Sm it φ) {L : Nat} (hL : isL φ it L) {p : Int} (rp : -2147483648 ≤ p ∧ p ≤ 2147483647) : Con G yX9_chain cX9_chain 2 (some .int) 6 0 0 [.ref x, vi p] h nx (PI fun z h' => ((p = 0 → z = (pc8 (gsF (fun s => unF (bgn φ it L) L it s True) (2 ^ it)) : Nat)) ∧ (p = 1 → z = (gsF (fun s => unF (bgn φ it L) L it s True) (2 ^ it) : Nat)) ∧ (¬ (p = 0 ∨ p = 1) → z = -1)) ∧ SF G h' x it φ ps im V n T ft ∧ ∀ q : Nat, (q < x ∨ x + 140 < q) → h' q = h q) := by
  obtain ⟨⟨sd, hx⟩, cF, cM, cP, cI, cV, cK, cR, cO, cW, cS, cZ, cT, cD⟩ := id hS
  have cF : FA G h (x + 1) it φ := cF
  have cP : PA G h (x + 9) ps := cP
  have cV : GV G h (x + 53) V := cV
  have cT : TA G h (x + 133) n T := cT
  have hf := cF.ob
  have hp := cP.ob
  have hv := cV.ob
  have ht := cT.1
  refine Con.of v_X9_chain.2.2.2.2.2.1 (Nat.le_of_ble_eq_true rfl) (lv := [(0, .ref x), (1, vi p)]) rfl (fun X k => ?_)
  generalize hQQ : QM G X nx 0 0 _ = QQ
  have fr0 : ∀ q : Nat, (q < x ∨ x + 140 < q) → h q = h q := fun _ _ => rfl
  refine g_aload_n k rfl dX9_chain_0 ?_
  refine g_iload_n k rfl dX9_chain_1 ?_
  refine g_iconst k dX9_chain_2 ?_
  refine g_cVi k 9 (As := [vi p, vi 1]) v_X9_greatest rfl rfl hx ml_X9_233 (c_X9_greatest hS hSm hL rp (ch := True) (cz := 1) (bz.y trivial)) (by omega) (by omega) rfl (Nat.le_of_ble_eq_true rfl) rfl dX9_chain_3 (fun r3 h3 p3 => ?_)
  obtain ⟨pz, hS1, nfr⟩ := p3
  have fr_ : ∀ q : Nat, (q < x ∨ x + 140 < q) → h3 q = h q := fun q hq => (nfr q (by omega)).trans (fr0 q hq)
  rw [← hQQ]
  refine g_ireti k rfl dX9_chain_6 ?_
  exact ⟨pz, hS1, fr_⟩

set_option maxHeartbeats 600000 in
set_option maxRecDepth 100000 in
theorem c_X9_crowd {G : Gx} {h : Hp} {nx x : Nat} {it : Nat} {φ : Fs} {ps : List (Nat × Fs)} {im : Nat → Option (Nat × Fs)} {V : RV} {n : Nat} {T : Nat → Int} {ft : Nat} (hS : SF G h x it φ ps im V n T ft) (hSm : Sm it φ) {L : Nat} (hL : isL φ it L) {p : Int} (rp : -2147483648 ≤ p ∧ p ≤ 2147483647) : Con G yX9_crowd cX9_crowd 2 (some .int) 6 0 0 [.ref x, vi p] h nx (PI fun z h' => ((p = 0 → z = (pc8 (gsF (fun s => unF (bgn φ it L) L it s False) (2 ^ it)) : Nat)) ∧ (p = 1 → z = (gsF (fun s => unF (bgn φ it L) L it s False) (2 ^ it) : Nat)) ∧ (¬ (p = 0 ∨ p = 1) → z = -1)) ∧ SF G h' x it φ ps im V n T ft ∧ ∀ q : Nat, (q < x ∨ x + 140 < q) → h' q = h q) := by
  obtain ⟨⟨sd, hx⟩, cF, cM, cP, cI, cV, cK, cR, cO, cW, cS, cZ, cT, cD⟩ := id hS
  have cF : FA G h (x + 1) it φ := cF
  have cP : PA G h (x + 9) ps := cP
  have cV : GV G h (x + 53) V := cV
  have cT : TA G h (x + 133) n T := cT
  have hf := cF.ob
  have hp := cP.ob
  have hv := cV.ob
  have ht := cT.1
  refine Con.of v_X9_crowd.2.2.2.2.2.1 (Nat.le_of_ble_eq_true rfl) (lv := [(0, .ref x), (1, vi p)]) rfl (fun X k => ?_)
  generalize hQQ : QM G X nx 0 0 _ = QQ
  have fr0 : ∀ q : Nat, (q < x ∨ x + 140 < q) → h q = h q := fun _ _ => rfl
  refine g_aload_n k rfl dX9_crowd_0 ?_
  refine g_iload_n k rfl dX9_crowd_1 ?_
  refine g_iconst k dX9_crowd_2 ?_
  refine g_cVi k 9 (As := [vi p, vi 0]) v_X9_greatest rfl rfl hx ml_X9_233 (c_X9_greatest hS hSm hL rp (ch := False) (cz := 0) (bz.n id)) (by omega) (by omega) rfl (Nat.le_of_ble_eq_true rfl) rfl dX9_crowd_3 (fun r3 h3 p3 => ?_)
  obtain ⟨pz, hS1, nfr⟩ := p3
  have fr_ : ∀ q : Nat, (q < x ∨ x + 140 < q) → h3 q = h q := fun q hq => (nfr q (by omega)).trans (fr0 q hq)
  rw [← hQQ]
  refine g_ireti k rfl dX9_crowd_6 ?_
  exact ⟨pz, hS1, fr_⟩

set_option maxHeartbeats 600000 in
set_option maxRecDepth 100000 in
theorem c_X9_room {G : Gx} {h : Hp} {nx x : Nat} {it : Nat} {φ : Fs} {ps : List (Nat × Fs)} {im : Nat → Option (Nat × Fs)} {V : RV} {n : Nat} {T : Nat → Int} {ft : Nat} (hS : SF G h x it φ ps im V n T ft) (hSm : Sm it φ) {L : Nat} (hL : isL φ it L) {p : Int} (rp : -2147483648 ≤ p ∧ p ≤ 2147483647) : Con G yX9_room cX9_room 2 (some .int) 5 0 0 [.ref x, vi p] h nx (PI fun z h' => ((¬ (p = -1 ∨ hasI it p) → z = -1) ∧ ((p = -1 ∨ hasI it p) → ∃ Q : Nat → Nat, Srt (bgn φ it L) Q it ∧ (p = -1 → z = (rmN (bgn φ it L) L Q it : Nat)) ∧ ∀ j, j < it → (Q j : Int) = p → z = (rmA (bgn φ it L) L Q j : Nat))) ∧ SF G h' x it φ ps im V n T ft ∧ ∀ q : Nat, (q < x ∨ x + 140 < q) → h' q = h q) := by
  obtain ⟨⟨sd, hx⟩, cF, cM, cP, cI, cV, cK, cR, cO, cW, cS, cZ, cT, cD⟩ := id hS
  have cF : FA G h (x + 1) it φ := cF
  have cP : PA G h (x + 9) ps := cP
  have cV : GV G h (x + 53) V := cV
  have cT : TA G h (x + 133) n T := cT
  have hf := cF.ob
  have hp := cP.ob
  have hv := cV.ob
  have ht := cT.1
  obtain ⟨⟨L0, g0, i0, RO, PR, ST, QU, hOA⟩, itO, MO, hRO⟩ := cO
  have hOA : OA G h (x + 61) L0 g0 i0 RO PR ST QU := hOA
  have ho := hOA.1
  have h8 := hSm.1
  have hOK := bgn_ok h8 hL
  have hl1 := hL.1
  have hl2 := hL.2.1
  refine Con.of v_X9_room.2.2.2.2.2.1 (Nat.le_of_ble_eq_true rfl) (lv := [(0, .ref x), (1, vi p)]) rfl (fun X k => ?_)
  generalize hQQ : QM G X nx 0 0 _ = QQ
  have fr0 : ∀ q : Nat, (q < x ∨ x + 140 < q) → h q = h q := fun _ _ => rfl
  have K18 : ∀ (hcc : (p = -1 ∨ hasI it p)), Go G X 2 QQ 0 0 nx 18 [(0, .ref x), (1, vi p)] [] h := by
    intro hcc
    refine g_aload_n k rfl dX9_room_18 ?_
    refine g_get k 9 8 (C := RX9) (T := TX9) (N := 15) fl_X9_54 rfl wi_X9 (by decide) rfl hx rfl dX9_room_19 ?_
    refine g_aload_n k rfl dX9_room_22 ?_
    refine g_get k 9 0 (C := RX9) (T := TX9) (N := 15) fl_X9_12 rfl wi_X9 (by decide) rfl hx rfl dX9_room_23 ?_
    refine g_cVv k 1 (As := [.ref (x + 1)]) v_X1_lay rfl rfl ho ml_X9_127 (c_X1_lay hOA hRO cF hSm (by omega) hL) (by omega) (by omega) rfl (Nat.le_of_ble_eq_true rfl) rfl dX9_room_26 (fun h26 p26 => ?_)
    obtain ⟨⟨ST2, nO, hST⟩, nRO, nfr⟩ := p26
    have hx_ : h26 x = some (ob 9 [.ref (x + 1), .ref (x + 5), .ref (x + 9), .ref (x + 43), .ref (x + 52), .ref (x + 53), .ref (x + 56), .ref (x + 59), .ref (x + 61), .ref (x + 68), .ref (x + 130), .ref (x + 132), .ref (x + 133), .ref (x + 135), vi sd]) := (nfr _ (by omega)).trans hx
    have hf_ : h26 (x + 1) = some (ob 0 [vi (it : Int), vi (φ.length : Int), .ref (x + 1 + 1), .ref (x + 1 + 2), .ref (x + 1 + 3)]) := (nfr _ (by omega)).trans hf
    have ho_ : h26 (x + 61) = some (ob 1 [vi (L : Int), vi g0, .ref (x + 61 + 1), .ref (x + 61 + 2), vi (it : Int), .ref (x + 61 + 3), .ref (x + 61 + 4), .ref (x + 61 + 5)]) := nO.1
    have fr_ : ∀ q : Nat, (q < x ∨ x + 140 < q) → h26 q = h q := fun q hq => (nfr q (by omega)).trans (fr0 q hq)
    have hS1 := hS.sO (h' := h26) ⟨⟨_, _, _, _, _, _, _, nO⟩, _, _, nRO⟩ (fun q g => nfr q (by omega))
    refine g_aload_n k rfl dX9_room_29 ?_
    refine g_get k 9 8 (C := RX9) (T := TX9) (N := 15) fl_X9_54 rfl wi_X9 (by decide) rfl hx_ rfl dX9_room_30 ?_
    refine g_cVv k 1 (As := []) v_X1_fillRooms rfl rfl ho_ ml_X9_237 (c_X1_fillRooms nO rfl hOK hST (by omega)) (by omega) (by omega) rfl (Nat.le_of_ble_eq_true rfl) rfl dX9_room_33 (fun h33 p33 => ?_)
    obtain ⟨⟨Q, RO2, QU2, hsr, nO2, hrm⟩, nfr2⟩ := p33
    have hx__1 : h33 x = some (ob 9 [.ref (x + 1), .ref (x + 5), .ref (x + 9), .ref (x + 43), .ref (x + 52), .ref (x + 53), .ref (x + 56), .ref (x + 59), .ref (x + 61), .ref (x + 68), .ref (x + 130), .ref (x + 132), .ref (x + 133), .ref (x + 135), vi sd]) := (nfr2 _ (by omega)).trans hx_
    have hf__1 : h33 (x + 1) = some (ob 0 [vi (it : Int), vi (φ.length : Int), .ref (x + 1 + 1), .ref (x + 1 + 2), .ref (x + 1 + 3)]) := (nfr2 _ (by omega)).trans hf_
    have ho__1 : h33 (x + 61) = some (ob 1 [vi (L : Int), vi (rmN (bgn φ it L) L Q it : Int), .ref (x + 61 + 1), .ref (x + 61 + 2), vi (it : Int), .ref (x + 61 + 3), .ref (x + 61 + 4), .ref (x + 61 + 5)]) := nO2.1
    have fr__1 : ∀ q : Nat, (q < x ∨ x + 140 < q) → h33 q = h q := fun q hq => (nfr2 q (by omega)).trans (fr_ q hq)
    have hS2 := hS1.sO (h' := h33) ⟨⟨_, _, _, _, _, _, _, nO2⟩, _, _, nRO.keep (fun q g1 g2 => nfr2 q (by omega))⟩ (fun q g => nfr2 q (by omega))
    have hro := nO2.2.1
    refine g_iload_n k rfl dX9_room_36 ?_
    refine g_iconst k dX9_room_37 ?_
    refine g_icmp_ne k (tgt := 51) (by omega) (by omega) dX9_room_38 (by decide) (fun c38 => ?_) (fun c38 => ?_)
    · skip
      have hh : hasI it p := hcc.resolve_left (by omega)
      obtain ⟨k1, ek1, hk1⟩ := nat_of hh
      rw [ek1]
      refine g_aload_n k rfl dX9_room_51 ?_
      refine g_get k 9 8 (C := RX9) (T := TX9) (N := 15) fl_X9_54 rfl wi_X9 (by decide) rfl hx__1 rfl dX9_room_52 ?_
      refine g_get k 1 2 (C := RX1) (T := TX1) (N := 8) fl_X9_243 rfl wi_X1 (by decide) rfl ho__1 rfl dX9_room_55 ?_
      refine g_iload_n k rfl dX9_room_58 ?_
      refine g_iald k k1 hro (by omega) (by omega) (by decide) dX9_room_59 ?_
      rw [← hQQ]
      refine g_ireti k rfl dX9_room_60 ?_
      refine ⟨⟨fun q => absurd hcc q, fun _ => ⟨Q, hsr, fun q => by omega, fun j hj e => ?_⟩⟩, hS2, fr__1⟩
      rw [← hrm j hj, show Q j = k1 by omega]
    · skip
      refine g_aload_n k rfl dX9_room_41 ?_
      refine g_get k 9 8 (C := RX9) (T := TX9) (N := 15) fl_X9_54 rfl wi_X9 (by decide) rfl hx__1 rfl dX9_room_42 ?_
      refine g_get k 1 1 (C := RX1) (T := TX1) (N := 8) fl_X9_240 rfl wi_X1 (by decide) rfl ho__1 rfl dX9_room_45 ?_
      refine g_goto k (tgt := 60) dX9_room_48 (by decide) ?_
      rw [← hQQ]
      refine g_ireti k rfl dX9_room_60 ?_
      exact ⟨⟨fun q => absurd hcc q, fun _ => ⟨Q, hsr, fun _ => rfl, fun j hj e => by omega⟩⟩, hS2, fr__1⟩
  refine g_iload_n k rfl dX9_room_0 ?_
  refine g_iconst k dX9_room_1 ?_
  refine g_icmp_eq k (tgt := 18) (by omega) (by omega) dX9_room_2 (by decide) (fun c2 => ?_) (fun c2 => ?_)
  · skip
    exact K18 (Or.inl (by omega))
  · skip
    refine g_aload_n k rfl dX9_room_5 ?_
    refine g_get k 9 0 (C := RX9) (T := TX9) (N := 15) fl_X9_12 rfl wi_X9 (by decide) rfl hx rfl dX9_room_6 ?_
    refine g_iload_n k rfl dX9_room_9 ?_
    refine g_cVi k 0 (As := [vi p]) v_X0_hasItem rfl rfl hf ml_X9_192 (c_X0_hasItem cF hSm rp) (by omega) (by omega) rfl (Nat.le_of_ble_eq_true rfl) rfl dX9_room_10 (fun r10 h10 p10 => ?_)
    obtain ⟨eh10, p10⟩ := p10
    have eh10 := eh10.symm; subst eh10
    have q10 := p10
    have q10r := q10.r
    refine g_if_ne k (tgt := 18) (by omega) dX9_room_13 (by decide) (fun c13 => ?_) (fun c13 => ?_)
    · skip
      exact K18 (Or.inr (q10.t (by omega)))
    · skip
      refine g_iconst k dX9_room_16 ?_
      rw [← hQQ]
      refine g_ireti k rfl dX9_room_17 ?_
      exact ⟨⟨fun _ => rfl, fun q => absurd q (fun q => q.elim (by omega) (q10.f (by omega)))⟩, hS, fr0⟩

set_option maxHeartbeats 600000 in
set_option maxRecDepth 100000 in
theorem c_X9_shape {G : Gx} {h : Hp} {nx x : Nat} {it : Nat} {φ : Fs} {ps : List (Nat × Fs)} {im : Nat → Option (Nat × Fs)} {V : RV} {n : Nat} {T : Nat → Int} {ft : Nat} (hS : SF G h x it φ ps im V n T ft) (hSm : Sm it φ) {L : Nat} (hL : isL φ it L) {p : Int} (rp : -2147483648 ≤ p ∧ p ≤ 2147483647) : Con G yX9_shape cX9_shape 2 (some .int) 5 0 0 [.ref x, vi p] h nx (PI fun z h' => ((¬ hasI it p → z = -1) ∧ (hasI it p → ∃ P : Nat → Nat, Std P (cah (bgn φ it L) L it) it ∧ z = (P p.toNat : Nat))) ∧ SF G h' x it φ ps im V n T ft ∧ ∀ q : Nat, (q < x ∨ x + 140 < q) → h' q = h q) := by
  obtain ⟨⟨sd, hx⟩, cF, cM, cP, cI, cV, cK, cR, cO, cW, cS, cZ, cT, cD⟩ := id hS
  have cF : FA G h (x + 1) it φ := cF
  have cP : PA G h (x + 9) ps := cP
  have cV : GV G h (x + 53) V := cV
  have cT : TA G h (x + 133) n T := cT
  have hf := cF.ob
  have hp := cP.ob
  have hv := cV.ob
  have ht := cT.1
  obtain ⟨⟨L0, g0, i0, RO, PR, ST, QU, hOA⟩, itO, MO, hRO⟩ := cO
  have hOA : OA G h (x + 61) L0 g0 i0 RO PR ST QU := hOA
  have ho := hOA.1
  have h8 := hSm.1
  have hOK := bgn_ok h8 hL
  have hl1 := hL.1
  have hl2 := hL.2.1
  refine Con.of v_X9_shape.2.2.2.2.2.1 (Nat.le_of_ble_eq_true rfl) (lv := [(0, .ref x), (1, vi p)]) rfl (fun X k => ?_)
  generalize hQQ : QM G X nx 0 0 _ = QQ
  have fr0 : ∀ q : Nat, (q < x ∨ x + 140 < q) → h q = h q := fun _ _ => rfl
  refine g_aload_n k rfl dX9_shape_0 ?_
  refine g_get k 9 0 (C := RX9) (T := TX9) (N := 15) fl_X9_12 rfl wi_X9 (by decide) rfl hx rfl dX9_shape_1 ?_
  refine g_iload_n k rfl dX9_shape_4 ?_
  refine g_cVi k 0 (As := [vi p]) v_X0_hasItem rfl rfl hf ml_X9_192 (c_X0_hasItem cF hSm rp) (by omega) (by omega) rfl (Nat.le_of_ble_eq_true rfl) rfl dX9_shape_5 (fun r5 h5 p5 => ?_)
  obtain ⟨eh5, p5⟩ := p5
  have eh5 := eh5.symm; subst eh5
  have q5 := p5
  have q5r := q5.r
  refine g_if_ne k (tgt := 13) (by omega) dX9_shape_8 (by decide) (fun c8 => ?_) (fun c8 => ?_)
  · skip
    have hh := q5.t (by omega)
    obtain ⟨k1, ek1, hk1⟩ := nat_of hh
    rw [ek1]
    refine g_aload_n k rfl dX9_shape_13 ?_
    refine g_get k 9 8 (C := RX9) (T := TX9) (N := 15) fl_X9_54 rfl wi_X9 (by decide) rfl hx rfl dX9_shape_14 ?_
    refine g_aload_n k rfl dX9_shape_17 ?_
    refine g_get k 9 0 (C := RX9) (T := TX9) (N := 15) fl_X9_12 rfl wi_X9 (by decide) rfl hx rfl dX9_shape_18 ?_
    refine g_cVv k 1 (As := [.ref (x + 1)]) v_X1_lay rfl rfl ho ml_X9_127 (c_X1_lay hOA hRO cF hSm (by omega) hL) (by omega) (by omega) rfl (Nat.le_of_ble_eq_true rfl) rfl dX9_shape_21 (fun h21 p21 => ?_)
    obtain ⟨⟨ST2, nO, hST⟩, nRO, nfr⟩ := p21
    have hx_ : h21 x = some (ob 9 [.ref (x + 1), .ref (x + 5), .ref (x + 9), .ref (x + 43), .ref (x + 52), .ref (x + 53), .ref (x + 56), .ref (x + 59), .ref (x + 61), .ref (x + 68), .ref (x + 130), .ref (x + 132), .ref (x + 133), .ref (x + 135), vi sd]) := (nfr _ (by omega)).trans hx
    have hf_ : h21 (x + 1) = some (ob 0 [vi (it : Int), vi (φ.length : Int), .ref (x + 1 + 1), .ref (x + 1 + 2), .ref (x + 1 + 3)]) := (nfr _ (by omega)).trans hf
    have ho_ : h21 (x + 61) = some (ob 1 [vi (L : Int), vi g0, .ref (x + 61 + 1), .ref (x + 61 + 2), vi (it : Int), .ref (x + 61 + 3), .ref (x + 61 + 4), .ref (x + 61 + 5)]) := nO.1
    have fr_ : ∀ q : Nat, (q < x ∨ x + 140 < q) → h21 q = h q := fun q hq => (nfr q (by omega)).trans (fr0 q hq)
    have hS1 := hS.sO (h' := h21) ⟨⟨_, _, _, _, _, _, _, nO⟩, _, _, nRO⟩ (fun q g => nfr q (by omega))
    refine g_aload_n k rfl dX9_shape_24 ?_
    refine g_get k 9 8 (C := RX9) (T := TX9) (N := 15) fl_X9_54 rfl wi_X9 (by decide) rfl hx_ rfl dX9_shape_25 ?_
    refine g_cVv k 1 (As := []) v_X1_fillProfile rfl rfl ho_ ml_X9_246 (c_X1_fillProfile nO rfl hOK hST (by omega)) (by omega) (by omega) rfl (Nat.le_of_ble_eq_true rfl) rfl dX9_shape_28 (fun h28 p28 => ?_)
    obtain ⟨⟨P, PR2, hpr, hsd, hP⟩, nfr2⟩ := p28
    have hx__1 : h28 x = some (ob 9 [.ref (x + 1), .ref (x + 5), .ref (x + 9), .ref (x + 43), .ref (x + 52), .ref (x + 53), .ref (x + 56), .ref (x + 59), .ref (x + 61), .ref (x + 68), .ref (x + 130), .ref (x + 132), .ref (x + 133), .ref (x + 135), vi sd]) := (nfr2 _ (by omega)).trans hx_
    have hf__1 : h28 (x + 1) = some (ob 0 [vi (it : Int), vi (φ.length : Int), .ref (x + 1 + 1), .ref (x + 1 + 2), .ref (x + 1 + 3)]) := (nfr2 _ (by omega)).trans hf_
    have ho__1 : h28 (x + 61) = some (ob 1 [vi (L : Int), vi g0, .ref (x + 61 + 1), .ref (x + 61 + 2), vi (it : Int), .ref (x + 61 + 3), .ref (x + 61 + 4), .ref (x + 61 + 5)]) := (nfr2 _ (by omega)).trans ho_
    have fr__1 : ∀ q : Nat, (q < x ∨ x + 140 < q) → h28 q = h q := fun q hq => (nfr2 q (by omega)).trans (fr_ q hq)
    have hS2 := hS1.sO (h' := h28) ⟨⟨_, _, _, _, _, _, _, (nfr2 _ (by omega)).trans nO.1, (nfr2 _ (by omega)).trans nO.2.1, hpr, (nfr2 _ (by omega)).trans nO.2.2.2.1, (nfr2 _ (by omega)).trans nO.2.2.2.2⟩, _, _, nRO.keep (fun q g1 g2 => nfr2 q (by omega))⟩ (fun q g => nfr2 q (by omega))
    refine g_aload_n k rfl dX9_shape_31 ?_
    refine g_get k 9 8 (C := RX9) (T := TX9) (N := 15) fl_X9_54 rfl wi_X9 (by decide) rfl hx__1 rfl dX9_shape_32 ?_
    refine g_get k 1 3 (C := RX1) (T := TX1) (N := 8) fl_X9_249 rfl wi_X1 (by decide) rfl ho__1 rfl dX9_shape_35 ?_
    refine g_iload_n k rfl dX9_shape_38 ?_
    refine g_iald k k1 hpr (by omega) (by omega) (by decide) dX9_shape_39 ?_
    rw [← hQQ]
    refine g_ireti k rfl dX9_shape_40 ?_
    refine ⟨⟨fun q => absurd hh q, fun _ => ⟨P, hsd, ?_⟩⟩, hS2, fr__1⟩
    rw [show p.toNat = k1 by omega]
    exact hP k1 hk1
  · skip
    refine g_iconst k dX9_shape_11 ?_
    rw [← hQQ]
    refine g_ireti k rfl dX9_shape_12 ?_
    exact ⟨⟨fun _ => rfl, fun q => absurd q (q5.f (by omega))⟩, hS, fr0⟩

set_option maxHeartbeats 600000 in
set_option maxRecDepth 100000 in
theorem c_X9_rank {G : Gx} {h : Hp} {nx x : Nat} {it : Nat} {φ : Fs} {ps : List (Nat × Fs)} {im : Nat → Option (Nat × Fs)} {V : RV} {n : Nat} {T : Nat → Int} {ft : Nat} (hS : SF G h x it φ ps im V n T ft) (hSm : Sm it φ) {L : Nat} (hL : isL φ it L) : Con G yX9_rank cX9_rank 1 (some .int) 5 0 0 [.ref x] h nx (PI fun z h' => (∃ P : Nat → Nat, Std P (cah (bgn φ it L) L it) it ∧ z = (rkF it P it : Nat)) ∧ SF G h' x it φ ps im V n T ft ∧ ∀ q : Nat, (q < x ∨ x + 140 < q) → h' q = h q) := by
  obtain ⟨⟨sd, hx⟩, cF, cM, cP, cI, cV, cK, cR, cO, cW, cS, cZ, cT, cD⟩ := id hS
  have cF : FA G h (x + 1) it φ := cF
  have cP : PA G h (x + 9) ps := cP
  have cV : GV G h (x + 53) V := cV
  have cT : TA G h (x + 133) n T := cT
  have hf := cF.ob
  have hp := cP.ob
  have hv := cV.ob
  have ht := cT.1
  obtain ⟨⟨L0, g0, i0, RO, PR, ST, QU, hOA⟩, itO, MO, hRO⟩ := cO
  have hOA : OA G h (x + 61) L0 g0 i0 RO PR ST QU := hOA
  have ho := hOA.1
  have h8 := hSm.1
  have hOK := bgn_ok h8 hL
  have hl1 := hL.1
  have hl2 := hL.2.1
  obtain ⟨T0, hTS⟩ := cS
  have hTS : TS G h (x + 130) T0 := hTS
  have hs := hTS.1
  refine Con.of v_X9_rank.2.2.2.2.2.1 (Nat.le_of_ble_eq_true rfl) (lv := [(0, .ref x)]) rfl (fun X k => ?_)
  generalize hQQ : QM G X nx 0 0 _ = QQ
  have fr0 : ∀ q : Nat, (q < x ∨ x + 140 < q) → h q = h q := fun _ _ => rfl
  refine g_aload_n k rfl dX9_rank_0 ?_
  refine g_get k 9 8 (C := RX9) (T := TX9) (N := 15) fl_X9_54 rfl wi_X9 (by decide) rfl hx rfl dX9_rank_1 ?_
  refine g_aload_n k rfl dX9_rank_4 ?_
  refine g_get k 9 0 (C := RX9) (T := TX9) (N := 15) fl_X9_12 rfl wi_X9 (by decide) rfl hx rfl dX9_rank_5 ?_
  refine g_cVv k 1 (As := [.ref (x + 1)]) v_X1_lay rfl rfl ho ml_X9_127 (c_X1_lay hOA hRO cF hSm (by omega) hL) (by omega) (by omega) rfl (Nat.le_of_ble_eq_true rfl) rfl dX9_rank_8 (fun h8 p8 => ?_)
  obtain ⟨⟨ST2, nO, hST⟩, nRO, nfr⟩ := p8
  have hx_ : h8 x = some (ob 9 [.ref (x + 1), .ref (x + 5), .ref (x + 9), .ref (x + 43), .ref (x + 52), .ref (x + 53), .ref (x + 56), .ref (x + 59), .ref (x + 61), .ref (x + 68), .ref (x + 130), .ref (x + 132), .ref (x + 133), .ref (x + 135), vi sd]) := (nfr _ (by omega)).trans hx
  have hf_ : h8 (x + 1) = some (ob 0 [vi (it : Int), vi (φ.length : Int), .ref (x + 1 + 1), .ref (x + 1 + 2), .ref (x + 1 + 3)]) := (nfr _ (by omega)).trans hf
  have ho_ : h8 (x + 61) = some (ob 1 [vi (L : Int), vi g0, .ref (x + 61 + 1), .ref (x + 61 + 2), vi (it : Int), .ref (x + 61 + 3), .ref (x + 61 + 4), .ref (x + 61 + 5)]) := nO.1
  have hs_ : h8 (x + 130) = some (ob 6 [.ref (x + 130 + 1)]) := (nfr _ (by omega)).trans hs
  have fr_ : ∀ q : Nat, (q < x ∨ x + 140 < q) → h8 q = h q := fun q hq => (nfr q (by omega)).trans (fr0 q hq)
  have hS1 := hS.sO (h' := h8) ⟨⟨_, _, _, _, _, _, _, nO⟩, _, _, nRO⟩ (fun q g => nfr q (by omega))
  refine g_aload_n k rfl dX9_rank_11 ?_
  refine g_get k 9 8 (C := RX9) (T := TX9) (N := 15) fl_X9_54 rfl wi_X9 (by decide) rfl hx_ rfl dX9_rank_12 ?_
  refine g_cVv k 1 (As := []) v_X1_fillProfile rfl rfl ho_ ml_X9_246 (c_X1_fillProfile nO rfl hOK hST (by omega)) (by omega) (by omega) rfl (Nat.le_of_ble_eq_true rfl) rfl dX9_rank_15 (fun h15 p15 => ?_)
  obtain ⟨⟨P, PR2, hpr, hsd, hP⟩, nfr2⟩ := p15
  have hx__1 : h15 x = some (ob 9 [.ref (x + 1), .ref (x + 5), .ref (x + 9), .ref (x + 43), .ref (x + 52), .ref (x + 53), .ref (x + 56), .ref (x + 59), .ref (x + 61), .ref (x + 68), .ref (x + 130), .ref (x + 132), .ref (x + 133), .ref (x + 135), vi sd]) := (nfr2 _ (by omega)).trans hx_
  have hf__1 : h15 (x + 1) = some (ob 0 [vi (it : Int), vi (φ.length : Int), .ref (x + 1 + 1), .ref (x + 1 + 2), .ref (x + 1 + 3)]) := (nfr2 _ (by omega)).trans hf_
  have ho__1 : h15 (x + 61) = some (ob 1 [vi (L : Int), vi g0, .ref (x + 61 + 1), .ref (x + 61 + 2), vi (it : Int), .ref (x + 61 + 3), .ref (x + 61 + 4), .ref (x + 61 + 5)]) := (nfr2 _ (by omega)).trans ho_
  have hs__1 : h15 (x + 130) = some (ob 6 [.ref (x + 130 + 1)]) := (nfr2 _ (by omega)).trans hs_
  have fr__1 : ∀ q : Nat, (q < x ∨ x + 140 < q) → h15 q = h q := fun q hq => (nfr2 q (by omega)).trans (fr_ q hq)
  have hS2 := hS1.sO (h' := h15) ⟨⟨_, _, _, _, _, _, _, (nfr2 _ (by omega)).trans nO.1, (nfr2 _ (by omega)).trans nO.2.1, hpr, (nfr2 _ (by omega)).trans nO.2.2.2.1, (nfr2 _ (by omega)).trans nO.2.2.2.2⟩, _, _, nRO.keep (fun q g1 g2 => nfr2 q (by omega))⟩ (fun q g => nfr2 q (by omega))
  refine g_aload_n k rfl dX9_rank_18 ?_
  refine g_get k 9 10 (C := RX9) (T := TX9) (N := 15) fl_X9_68 rfl wi_X9 (by decide) rfl hx__1 rfl dX9_rank_19 ?_
  refine g_aload_n k rfl dX9_rank_22 ?_
  refine g_get k 9 8 (C := RX9) (T := TX9) (N := 15) fl_X9_54 rfl wi_X9 (by decide) rfl hx__1 rfl dX9_rank_23 ?_
  refine g_get k 1 3 (C := RX1) (T := TX1) (N := 8) fl_X9_249 rfl wi_X1 (by decide) rfl ho__1 rfl dX9_rank_26 ?_
  refine g_aload_n k rfl dX9_rank_29 ?_
  refine g_get k 9 0 (C := RX9) (T := TX9) (N := 15) fl_X9_12 rfl wi_X9 (by decide) rfl hx__1 rfl dX9_rank_30 ?_
  refine g_get k 0 0 (C := RX0) (T := TX0) (N := 5) fl_X9_120 rfl wi_X0 (by decide) rfl hf__1 rfl dX9_rank_33 ?_
  refine g_cVi k 6 (As := [.ref (x + 61 + 2), vi (it : Int)]) v_X6_rankOf rfl rfl hs__1 ml_X9_252 (c_X6_rankOf (hTS.keep (fun q g1 g2 => (nfr2 q (by omega)).trans (nfr q (by omega)))) (n := it) hSm.1 (b := x + 61 + 2) hpr (by omega) (fun i hi => ⟨hP i hi, hsd.low (by omega) (fun v hv => (hOK.2 v hv).1) i hi⟩) hsd.1) (by omega) (by omega) rfl (Nat.le_of_ble_eq_true rfl) rfl dX9_rank_36 (fun r36 h36 p36 => ?_)
  obtain ⟨p36e, ⟨T2, nT⟩, nfr3⟩ := p36
  subst p36e
  have hx__2 : h36 x = some (ob 9 [.ref (x + 1), .ref (x + 5), .ref (x + 9), .ref (x + 43), .ref (x + 52), .ref (x + 53), .ref (x + 56), .ref (x + 59), .ref (x + 61), .ref (x + 68), .ref (x + 130), .ref (x + 132), .ref (x + 133), .ref (x + 135), vi sd]) := (nfr3 _ (by omega)).trans hx__1
  have hf__2 : h36 (x + 1) = some (ob 0 [vi (it : Int), vi (φ.length : Int), .ref (x + 1 + 1), .ref (x + 1 + 2), .ref (x + 1 + 3)]) := (nfr3 _ (by omega)).trans hf__1
  have ho__2 : h36 (x + 61) = some (ob 1 [vi (L : Int), vi g0, .ref (x + 61 + 1), .ref (x + 61 + 2), vi (it : Int), .ref (x + 61 + 3), .ref (x + 61 + 4), .ref (x + 61 + 5)]) := (nfr3 _ (by omega)).trans ho__1
  have hs__2 : h36 (x + 130) = some (ob 6 [.ref (x + 130 + 1)]) := (nfr3 _ (by omega)).trans hs__1
  have fr__2 : ∀ q : Nat, (q < x ∨ x + 140 < q) → h36 q = h q := fun q hq => (nfr3 q (by omega)).trans (fr__1 q hq)
  have hS3 := hS2.sS ⟨T2, nT⟩ (fun q g => nfr3 q (by omega))
  rw [← hQQ]
  refine g_ireti k rfl dX9_rank_39 ?_
  exact ⟨⟨P, hsd, rfl⟩, hS3, fr__2⟩

set_option maxHeartbeats 600000 in
set_option maxRecDepth 100000 in
theorem c_X9_shapes {G : Gx} {h : Hp} {nx x : Nat} {it : Nat} {φ : Fs} {ps : List (Nat × Fs)} {im : Nat → Option (Nat × Fs)} {V : RV} {n : Nat} {T : Nat → Int} {ft : Nat} (hS : SF G h x it φ ps im V n T ft) {p : Int} (rp : -2147483648 ≤ p ∧ p ≤ 2147483647) : Con G yX9_shapes cX9_shapes 2 (some .int) 4 0 0 [.ref x, vi p] h nx (PI fun z h' => (((0 ≤ p ∧ p ≤ 12) → z = (rF p.toNat 0 0 : Nat)) ∧ (¬ (0 ≤ p ∧ p ≤ 12) → z = -1)) ∧ SF G h' x it φ ps im V n T ft ∧ ∀ q : Nat, (q < x ∨ x + 140 < q) → h' q = h q) := by
  obtain ⟨⟨sd, hx⟩, cF, cM, cP, cI, cV, cK, cR, cO, cW, cS, cZ, cT, cD⟩ := id hS
  have cF : FA G h (x + 1) it φ := cF
  have cP : PA G h (x + 9) ps := cP
  have cV : GV G h (x + 53) V := cV
  have cT : TA G h (x + 133) n T := cT
  have hf := cF.ob
  have hp := cP.ob
  have hv := cV.ob
  have ht := cT.1
  obtain ⟨T0, hTS⟩ := cS
  have hTS : TS G h (x + 130) T0 := hTS
  have hs := hTS.1
  refine Con.of v_X9_shapes.2.2.2.2.2.1 (Nat.le_of_ble_eq_true rfl) (lv := [(0, .ref x), (1, vi p)]) rfl (fun X k => ?_)
  generalize hQQ : QM G X nx 0 0 _ = QQ
  have fr0 : ∀ q : Nat, (q < x ∨ x + 140 < q) → h q = h q := fun _ _ => rfl
  refine g_iload_n k rfl dX9_shapes_0 ?_
  refine g_if_lt k (tgt := 10) (by omega) dX9_shapes_1 (by decide) (fun c1 => ?_) (fun c1 => ?_)
  · skip
    refine g_iconst k dX9_shapes_10 ?_
    refine g_goto k (tgt := 22) dX9_shapes_11 (by decide) ?_
    rw [← hQQ]
    refine g_ireti k rfl dX9_shapes_22 ?_
    exact ⟨⟨fun q => by omega, fun _ => rfl⟩, hS, fr0⟩
  · skip
    refine g_iload_n k rfl dX9_shapes_4 ?_
    refine g_bipush k rfl dX9_shapes_5 ?_
    refine g_icmp_le k (tgt := 14) (by omega) (by omega) dX9_shapes_7 (by decide) (fun c7 => ?_) (fun c7 => ?_)
    · skip
      obtain ⟨k1, ek1⟩ : ∃ k1 : Nat, p = k1 := ⟨p.toNat, by omega⟩
      rw [ek1]
      refine g_aload_n k rfl dX9_shapes_14 ?_
      refine g_get k 9 10 (C := RX9) (T := TX9) (N := 15) fl_X9_68 rfl wi_X9 (by decide) rfl hx rfl dX9_shapes_15 ?_
      refine g_iload_n k rfl dX9_shapes_18 ?_
      refine g_cVi k 6 (As := [vi (k1 : Int)]) v_X6_howMany rfl rfl hs ml_X9_256 (c_X6_howMany hTS (n := k1) (by omega)) (by omega) (by omega) rfl (Nat.le_of_ble_eq_true rfl) rfl dX9_shapes_19 (fun r19 h19 p19 => ?_)
      obtain ⟨p19e, ⟨T2, nT, -⟩, nfr3⟩ := p19
      subst p19e
      have hx_ : h19 x = some (ob 9 [.ref (x + 1), .ref (x + 5), .ref (x + 9), .ref (x + 43), .ref (x + 52), .ref (x + 53), .ref (x + 56), .ref (x + 59), .ref (x + 61), .ref (x + 68), .ref (x + 130), .ref (x + 132), .ref (x + 133), .ref (x + 135), vi sd]) := (nfr3 _ (by omega)).trans hx
      have hs_ : h19 (x + 130) = some (ob 6 [.ref (x + 130 + 1)]) := (nfr3 _ (by omega)).trans hs
      have fr_ : ∀ q : Nat, (q < x ∨ x + 140 < q) → h19 q = h q := fun q hq => (nfr3 q (by omega)).trans (fr0 q hq)
      rw [← hQQ]
      refine g_ireti k rfl dX9_shapes_22 ?_
      refine ⟨⟨fun _ => ?_, fun q => by omega⟩, hS.sS ⟨T2, nT⟩ (fun q g => nfr3 q (by omega)), fr_⟩
      rw [show p.toNat = k1 by omega]
    · skip
      refine g_iconst k dX9_shapes_10 ?_
      refine g_goto k (tgt := 22) dX9_shapes_11 (by decide) ?_
      rw [← hQQ]
      refine g_ireti k rfl dX9_shapes_22 ?_
      exact ⟨⟨fun q => by omega, fun _ => rfl⟩, hS, fr0⟩

