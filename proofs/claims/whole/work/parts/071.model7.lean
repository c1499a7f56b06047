/-! the reference: sets, rooms -/
set_option maxHeartbeats 600000 in
set_option maxRecDepth 100000 in
theorem c_X10_isAlike {G : Gx} {h : Hp} {nx : Nat} {m : Nat} {s : Nat → Int} (hm : h m = some (mo m s)) {N : Nat → Int} {it : Nat} {φ : Fs} (hn : h (m + 2) = some (ai G 86 N)) (hR : Rw N it φ) (hS : Sm it φ) {Bg : Nat → Int} (hg : h (m + 15) = some (ai G 8 Bg)) {B : Nat → Int} {L : Int} (hO : OK8 B it) (hB : ∀ v, v < it → Bg v = B v) (z19 : s 19 = L) (hL : 1 ≤ L ∧ L ≤ 60) {s1 : Nat} (hs : s1 < 256) {ch : Prop} {cz : Int} (hc : bz ch cz) : Con G yX10_isAlike cX10_isAlike 5 (some .boolean) 2 0 0 [.ref m, vi (s1 : Int), vi cz] h nx (PI fun z h' => h' = h ∧ bz (unF B L it s1 ch) z) := by
  obtain ⟨h8, h28, hsm⟩ := id hS
  have hcr := hc.r
  refine Con.of v_X10_isAlike.2.2.2.2.2.1 (Nat.le_of_ble_eq_true rfl) (lv := [(0, .ref m), (1, vi (s1 : Int)), (2, vi cz)]) rfl (fun X k => ?_)
  generalize hQQ : QM G X nx 0 0 _ = QQ
  refine g_iconst k dX10_isAlike_0 ?_
  refine g_istore_n k (lv2 := [(0, .ref m), (1, vi (s1 : Int)), (2, vi cz), (3, vi 0)]) (by decide) rfl rfl dX10_isAlike_1 ?_
  have K2 : ∀ (nz : Nat) (x : Nat) (hx : x ≤ it) (hno : ∀ u, u < x → ∀ v, u < v → v < it → bitN s1 u → bitN s1 v → ((pre B L u v ∨ pre B L v u) ↔ ch)) (hmz : it - x < nz), Go G X 5 QQ 0 0 nx 2 [(0, .ref m), (1, vi (s1 : Int)), (2, vi cz), (3, vi (x : Int))] [] h := by
    intro nz
    induction nz with
    | zero => intro x hx hno hmz; exact absurd hmz (Nat.not_lt_zero _)
    | succ nz ih2 =>
      intro x hx hno hmz
      refine g_iload_n k rfl dX10_isAlike_2 ?_
      refine g_aload_n k rfl dX10_isAlike_3 ?_
      refine g_cVi k 10 (As := []) v_X10_items rfl rfl hm ml_X10_228 (c_X10_items hm hn hR hS) (by omega) (by omega) rfl (Nat.le_of_ble_eq_true rfl) rfl dX10_isAlike_4 (fun r4 h4 p4 => ?_)
      obtain ⟨eh4, p4⟩ := p4
      have eh4 := eh4.symm; subst eh4
      subst p4
      refine g_icmp_ge k (tgt := 84) (by omega) (by omega) dX10_isAlike_7 (by decide) (fun c7 => ?_) (fun c7 => ?_)
      · skip
        refine g_iconst k dX10_isAlike_84 ?_
        rw [← hQQ]
        refine g_zreti k (by omega) rfl dX10_isAlike_85 ?_
        exact ⟨rfl, bz.y (fun u v g1 g2 => hno u (by omega) v g1 g2)⟩
      · skip
        refine g_iload_n k rfl dX10_isAlike_10 ?_
        refine g_iconst k dX10_isAlike_11 ?_
        refine g_iadd k dX10_isAlike_12 ?_
        refine g_istore k (lv2 := [(0, .ref m), (1, vi (s1 : Int)), (2, vi cz), (3, vi (x : Int)), (4, vi ((x : Int) + 1))]) (by decide) rfl rfl dX10_isAlike_13 ?_
        have K15 : ∀ (nz_1 : Nat) (y : Nat) (hy : x < y ∧ y ≤ it) (hm2 : ∀ v, x < v → v < y → bitN s1 x → bitN s1 v → ((pre B L x v ∨ pre B L v x) ↔ ch)) (hmz_1 : it - y < nz_1), Go G X 5 QQ 0 0 nx 15 [(0, .ref m), (1, vi (s1 : Int)), (2, vi cz), (3, vi (x : Int)), (4, vi (y : Int))] [] h := by
          intro nz_1
          induction nz_1 with
          | zero => intro y hy hm2 hmz_1; exact absurd hmz_1 (Nat.not_lt_zero _)
          | succ nz_1 ih15 =>
            intro y hy hm2 hmz_1
            refine g_iload k rfl dX10_isAlike_15 ?_
            refine g_aload_n k rfl dX10_isAlike_17 ?_
            refine g_cVi k 10 (As := []) v_X10_items rfl rfl hm ml_X10_228 (c_X10_items hm hn hR hS) (by omega) (by omega) rfl (Nat.le_of_ble_eq_true rfl) rfl dX10_isAlike_18 (fun r18 h18 p18 => ?_)
            obtain ⟨eh18, p18⟩ := p18
            have eh18 := eh18.symm; subst eh18
            subst p18
            refine g_icmp_ge k (tgt := 78) (by omega) (by omega) dX10_isAlike_21 (by decide) (fun c21 => ?_) (fun c21 => ?_)
            · skip
              refine g_iinc k (lv2 := [(0, .ref m), (1, vi (s1 : Int)), (2, vi cz), (3, vi ((x : Int) + 1)), (4, vi (y : Int))]) rfl (by decide) rfl rfl dX10_isAlike_78 ?_
              refine g_goto k (tgt := 2) dX10_isAlike_81 (by decide) ?_
              refine g_less (lv2 := [(0, .ref m), (1, vi (s1 : Int)), (2, vi cz), (3, vi ((x : Int) + 1))]) ⟨rfl, rfl, rfl, rfl, trivial⟩ ?_
              exact ih2 (x + 1) (by omega) (lt_s2 hno (fun v g1 g2 => hm2 v g1 (by omega))) (by omega)
            · skip
              refine g_iload_n k rfl dX10_isAlike_24 ?_
              refine g_iload_n k rfl dX10_isAlike_25 ?_
              refine g_cSi k (As := [vi (s1 : Int), vi (x : Int)]) v_X10_has ml_X10_286 (c_X10_has (w := s1) (k1 := x) (by omega) (by omega)) (by omega) (by omega) rfl (Nat.le_of_ble_eq_true rfl) rfl dX10_isAlike_26 (fun r26 h26 p26 => ?_)
              obtain ⟨eh26, p26⟩ := p26
              have eh26 := eh26.symm; subst eh26
              have q26 := p26
              have q26r := q26.r
              refine g_if_eq k (tgt := 72) (by omega) dX10_isAlike_29 (by decide) (fun c29 => ?_) (fun c29 => ?_)
              · skip
                refine g_iinc k (lv2 := [(0, .ref m), (1, vi (s1 : Int)), (2, vi cz), (3, vi (x : Int)), (4, vi ((y : Int) + 1))]) rfl (by decide) rfl rfl dX10_isAlike_72 ?_
                refine g_goto k (tgt := 15) dX10_isAlike_75 (by decide) ?_
                exact ih15 (y + 1) (by omega) (fun v g1 g2 => by rcases (show v < y ∨ v = y by omega) with q | rfl; exact hm2 v g1 q; exact fun q1 q2 => absurd q1 (q26.f (by omega))) (by omega)
              · skip
                refine g_iload_n k rfl dX10_isAlike_32 ?_
                refine g_iload k rfl dX10_isAlike_33 ?_
                refine g_cSi k (As := [vi (s1 : Int), vi (y : Int)]) v_X10_has ml_X10_286 (c_X10_has (w := s1) (k1 := y) (by omega) (by omega)) (by omega) (by omega) rfl (Nat.le_of_ble_eq_true rfl) rfl dX10_isAlike_35 (fun r35 h35 p35 => ?_)
                obtain ⟨eh35, p35⟩ := p35
                have eh35 := eh35.symm; subst eh35
                have q35 := p35
                have q35r := q35.r
                refine g_if_eq k (tgt := 72) (by omega) dX10_isAlike_38 (by decide) (fun c38 => ?_) (fun c38 => ?_)
                · skip
                  refine g_iinc k (lv2 := [(0, .ref m), (1, vi (s1 : Int)), (2, vi cz), (3, vi (x : Int)), (4, vi ((y : Int) + 1))]) rfl (by decide) rfl rfl dX10_isAlike_72 ?_
                  refine g_goto k (tgt := 15) dX10_isAlike_75 (by decide) ?_
                  exact ih15 (y + 1) (by omega) (fun v g1 g2 => by rcases (show v < y ∨ v = y by omega) with q | rfl; exact hm2 v g1 q; exact fun q1 q2 => absurd q2 (q35.f (by omega))) (by omega)
                · skip
                  have K66 : ∀ (z6 : Int) (hz6 : bz (pre B L x y ∨ pre B L y x) z6), Go G X 5 QQ 0 0 nx 66 [(0, .ref m), (1, vi (s1 : Int)), (2, vi cz), (3, vi (x : Int)), (4, vi (y : Int))] [vi z6] h := by
                    intro z6 hz6
                    have hz6r := hz6.r
                    refine g_iload_n k rfl dX10_isAlike_66 ?_
                    refine g_icmp_eq k (tgt := 72) (by omega) (by omega) dX10_isAlike_67 (by decide) (fun c67 => ?_) (fun c67 => ?_)
                    · skip
                      refine g_iinc k (lv2 := [(0, .ref m), (1, vi (s1 : Int)), (2, vi cz), (3, vi (x : Int)), (4, vi ((y : Int) + 1))]) rfl (by decide) rfl rfl dX10_isAlike_72 ?_
                      refine g_goto k (tgt := 15) dX10_isAlike_75 (by decide) ?_
                      exact ih15 (y + 1) (by omega) (fun v g1 g2 => by rcases (show v < y ∨ v = y by omega) with q | rfl; exact hm2 v g1 q; exact fun _ _ => ⟨fun q => by rcases hz6 with z | z; exact hc.t (by omega); exact absurd q z.1, fun q => by rcases hc with z | z; exact hz6.t (by omega); exact absurd q z.1⟩) (by omega)
                    · skip
                      refine g_iconst k dX10_isAlike_70 ?_
                      rw [← hQQ]
                      refine g_zreti k (by omega) rfl dX10_isAlike_71 ?_
                      refine ⟨rfl, bz.n (fun q => ?_)⟩
                      have h6 := q x y (by omega) (by omega) (q26.t (by omega)) (q35.t (by omega))
                      rcases hz6 with z | z <;> rcases hc with z2 | z2
                      · omega
                      · exact z2.1 (h6.mp z.1)
                      · exact z.1 (h6.mpr z2.1)
                      · omega
                  refine g_aload_n k rfl dX10_isAlike_41 ?_
                  refine g_iload_n k rfl dX10_isAlike_42 ?_
                  refine g_iload k rfl dX10_isAlike_43 ?_
                  refine g_cVi k 10 (As := [vi (x : Int), vi (y : Int)]) v_X10_isAhead rfl rfl hm ml_X10_299 (c_X10_isAhead hm hg hO hB z19 hL (x := x) (y := y) (by omega) (by omega)) (by omega) (by omega) rfl (Nat.le_of_ble_eq_true rfl) rfl dX10_isAlike_45 (fun r45 h45 p45 => ?_)
                  obtain ⟨eh45, p45⟩ := p45
                  have eh45 := eh45.symm; subst eh45
                  have q45 := p45
                  have q45r := q45.r
                  refine g_if_ne k (tgt := 61) (by omega) dX10_isAlike_48 (by decide) (fun c48 => ?_) (fun c48 => ?_)
                  · skip
                    refine g_iconst k dX10_isAlike_61 ?_
                    refine g_goto k (tgt := 66) dX10_isAlike_62 (by decide) ?_
                    exact K66 _ (bz.y (Or.inl (q45.t (by omega))))
                  · skip
                    refine g_aload_n k rfl dX10_isAlike_51 ?_
                    refine g_iload k rfl dX10_isAlike_52 ?_
                    refine g_iload_n k rfl dX10_isAlike_54 ?_
                    refine g_cVi k 10 (As := [vi (y : Int), vi (x : Int)]) v_X10_isAhead rfl rfl hm ml_X10_299 (c_X10_isAhead hm hg hO hB z19 hL (x := y) (y := x) (by omega) (by omega)) (by omega) (by omega) rfl (Nat.le_of_ble_eq_true rfl) rfl dX10_isAlike_55 (fun r55 h55 p55 => ?_)
                    obtain ⟨eh55, p55⟩ := p55
                    have eh55 := eh55.symm; subst eh55
                    have q55 := p55
                    have q55r := q55.r
                    refine g_if_eq k (tgt := 65) (by omega) dX10_isAlike_58 (by decide) (fun c58 => ?_) (fun c58 => ?_)
                    · skip
                      refine g_iconst k dX10_isAlike_65 ?_
                      exact K66 _ (bz.n (fun q => q.elim (q45.f (by omega)) (q55.f (by omega))))
                    · skip
                      refine g_iconst k dX10_isAlike_61 ?_
                      refine g_goto k (tgt := 66) dX10_isAlike_62 (by decide) ?_
                      exact K66 _ (bz.y (Or.inr (q55.t (by omega))))
        exact K15 _ (x + 1) (by omega) (fun v g1 g2 => by omega) (Nat.lt_succ_self _)
  exact K2 _ 0 (Nat.zero_le _) (fun j hj => absurd hj (Nat.not_lt_zero j)) (Nat.lt_succ_self _)

theorem pcH_pc8 : ∀ n, n < 256 → pcH 30 n = pc8 n := by decide +kernel
set_option maxHeartbeats 600000 in
set_option maxRecDepth 100000 in
theorem c_X10_most {G : Gx} {h : Hp} {nx m : Nat} {it : Nat} {φ : Fs} {ps : List (Nat × Fs)} {im : Nat → Option (Nat × Fs)} {V : RV} {n : Nat} {T : Nat → Int} {ft : Nat} (hM : MS G h m it φ ps im V n T ft) (hS : Sm it φ) {L : Nat} (hL : isL φ it L) {p : Int} (rp : -2147483648 ≤ p ∧ p ≤ 2147483647) {ch : Prop} {cz : Int} (hc : bz ch cz) : Con G yX10_most cX10_most 5 (some .int) 6 0 0 [.ref m, vi cz, vi p] h nx (PI fun z h' => ((p = 0 → z = (pc8 (gsF (fun s => unF (bgn φ it L) L it s ch) (2 ^ it)) : Nat)) ∧ (p = 1 → z = (gsF (fun s => unF (bgn φ it L) L it s ch) (2 ^ it) : Nat)) ∧ (¬ (p = 0 ∨ p = 1) → z = -1)) ∧ MT G h' m 0 it φ ps im V n T ft ∧ ∀ q : Nat, (q < m ∨ m + 17 < q) → h' q = h q) := by
  obtain ⟨th, s, ⟨hm, cq1, cq2, cq3, cq4, cq5, cq6, cq7, cq8, cq9, cq10, cq11, cq12, cq13, cq14, cq15, cq16, cq17⟩, hsc, hth⟩ := hM
  obtain ⟨z1, z6, z9, z14, z17, z15, z16⟩ := id hsc
  obtain ⟨N, hn, hR⟩ := id cq2
  obtain ⟨S, hu⟩ := id cq11
  obtain ⟨Bg, hg⟩ := id cq15
  obtain ⟨h8, h28, hsm⟩ := id hS
  have hO := bgn_ok hS.1 hL
  obtain ⟨l1, l2, l3, l4⟩ := id hL
  have hL60 : 1 ≤ (L : Int) ∧ (L : Int) ≤ 60 := by omega
  have hp8 := pw8 (n := it) h8
  have hcr := hc.r
  refine Con.of v_X10_most.2.2.2.2.2.1 (Nat.le_of_ble_eq_true rfl) (lv := [(0, .ref m), (1, vi cz), (2, vi p)]) rfl (fun X k => ?_)
  generalize hQQ : QM G X nx 0 0 _ = QQ
  have fr0 : ∀ q : Nat, (q ≠ m ∧ q ≠ m + 11 ∧ q ≠ m + 15) → h q = h q := fun _ _ => rfl
  refine g_aload_n k rfl dX10_most_0 ?_
  refine g_iconst k dX10_most_1 ?_
  refine g_put k 10 0 (C := RX10) (T := TX10) (N := 38) fl_X10_1 rfl wi_X10 tyX10 tyX10_ok nmX10 (by decide) rfl rfl rfl rfl hm (Nat.le_of_ble_eq_true rfl) (fs2 := mol m (fu s 0 0)) rfl rfl dX10_most_2 (fun h2 eh2 => ?_)
  have hm_ : h2 m = some (mo m (fu s 0 0)) := (congrFun eh2 _).trans hup_s
  have hn_ : h2 (m + 2) = some (ai G 86 N) := (congrFun eh2 _).trans ((hup_n (by omega)).trans hn)
  have hu_ : h2 (m + 11) = some (ai G 64 S) := (congrFun eh2 _).trans ((hup_n (by omega)).trans hu)
  have hg_ : h2 (m + 15) = some (ai G 8 Bg) := (congrFun eh2 _).trans ((hup_n (by omega)).trans hg)
  have fr_ : ∀ q : Nat, (q ≠ m ∧ q ≠ m + 11 ∧ q ≠ m + 15) → h2 q = h q := fun q hq => (congrFun eh2 q).trans ((hup_n (by omega)).trans (fr0 q hq))
  refine g_iload_n k rfl dX10_most_5 ?_
  refine g_iconst k dX10_most_6 ?_
  refine g_iconst k dX10_most_7 ?_
  refine g_cSi k (As := [vi p, vi 0, vi 1]) v_X10_isIn ml_X10_224 (c_X10_isIn rp (by omega) (by omega)) (by omega) (by omega) rfl (Nat.le_of_ble_eq_true rfl) rfl dX10_most_8 (fun r8 h8 p8 => ?_)
  obtain ⟨eh8, p8⟩ := p8
  have eh8 := eh8.symm; subst eh8
  have q8 := p8
  have q8r := q8.r
  refine g_if_ne k (tgt := 16) (by omega) dX10_most_11 (by decide) (fun c11 => ?_) (fun c11 => ?_)
  · skip
    have hpp := q8.t (by omega)
    refine g_aload_n k rfl dX10_most_16 ?_
    refine g_cVv k 10 (As := []) v_X10_laysOrder rfl rfl hm_ ml_X10_296 (c_X10_laysOrder hm_ hn_ hR hS hu_ hg_ hL) (by omega) (by omega) rfl (Nat.le_of_ble_eq_true rfl) rfl dX10_most_17 (fun h17 p17 => ?_)
    obtain ⟨⟨nm9, ⟨S9, nu9⟩, B9, ng9, hBg⟩, nfr9⟩ := p17
    have hm__1 : h17 m = some (mo m (fu (fu s 0 0) 19 (L : Int))) := nm9
    have hn__1 : h17 (m + 2) = some (ai G 86 N) := (nfr9 _ (by omega)).trans hn_
    have hu__1 : h17 (m + 11) = some (ai G 64 S9) := nu9
    have hg__1 : h17 (m + 15) = some (ai G 8 B9) := ng9
    have fr__1 : ∀ q : Nat, (q ≠ m ∧ q ≠ m + 11 ∧ q ≠ m + 15) → h17 q = h q := fun q hq => (nfr9 q (by omega)).trans (fr_ q hq)
    refine g_iconst k dX10_most_20 ?_
    refine g_istore_n k (lv2 := [(0, .ref m), (1, vi cz), (2, vi p), (3, vi 0)]) (by decide) rfl rfl dX10_most_21 ?_
    refine g_iconst k dX10_most_22 ?_
    refine g_istore k (lv2 := [(0, .ref m), (1, vi cz), (2, vi p), (3, vi 0), (4, vi 1)]) (by decide) rfl rfl dX10_most_23 ?_
    have K25 : ∀ (nz : Nat) (v : Nat) (hv : 1 ≤ v ∧ v ≤ 2 ^ it) (hmz : 2 ^ it - v < nz), Go G X 5 QQ 0 0 nx 25 [(0, .ref m), (1, vi cz), (2, vi p), (3, vi (gsF (fun s => unF (bgn φ it L) L it s ch) v : Int)), (4, vi (v : Int))] [] h17 := by
      intro nz
      induction nz with
      | zero => intro v hv hmz; exact absurd hmz (Nat.not_lt_zero _)
      | succ nz ih25 =>
        intro v hv hmz
        have hgl := gsF_lt (fun s => unF (bgn φ it L) L it s ch) v
        refine g_iload k rfl dX10_most_25 ?_
        refine g_iconst k dX10_most_27 ?_
        refine g_aload_n k rfl dX10_most_28 ?_
        refine g_cVi k 10 (As := []) v_X10_items rfl rfl hm__1 ml_X10_228 (c_X10_items hm__1 hn__1 hR hS) (by omega) (by omega) rfl (Nat.le_of_ble_eq_true rfl) rfl dX10_most_29 (fun r29 h29 p29 => ?_)
        obtain ⟨eh29, p29⟩ := p29
        have eh29 := eh29.symm; subst eh29
        subst p29
        refine g_ishl k (by omega) dX10_most_32 ?_
        rw [show 1 * 2 ^ ((it : Int)).toNat = ((2 ^ it : Nat) : Int) from (by rw [Int.toNat_natCast, Int.natCast_pow, Int.one_mul]; rfl)]
        refine g_icmp_ge k (tgt := 67) (by omega) (by omega) dX10_most_33 (by decide) (fun c33 => ?_) (fun c33 => ?_)
        · skip
          have ev : v = 2 ^ it := by omega
          rw [ev] at hgl
          rw [ev]
          refine g_iload_n k rfl dX10_most_67 ?_
          refine g_if_ne k (tgt := 78) (by omega) dX10_most_68 (by decide) (fun c68 => ?_) (fun c68 => ?_)
          · skip
            refine g_iload_n k rfl dX10_most_78 ?_
            rw [← hQQ]
            refine g_ireti k rfl dX10_most_79 ?_
            exact ⟨⟨fun q => absurd q (by omega), fun _ => rfl, fun q => absurd q (by omega)⟩, ⟨_, ⟨hm__1, ((fr__1 (m + 1) (by omega)).trans cq1), ⟨N, hn__1, hR⟩, (by rw [fr__1 (m + 3) (by omega)]; exact cq3), (by rw [fr__1 (m + 4) (by omega)]; exact cq4), (by rw [fr__1 (m + 5) (by omega)]; exact cq5), (by rw [fr__1 (m + 6) (by omega)]; exact cq6), (by rw [fr__1 (m + 7) (by omega)]; exact cq7), (by rw [fr__1 (m + 8) (by omega)]; exact cq8), (by rw [fr__1 (m + 9) (by omega)]; exact cq9), (by rw [fr__1 (m + 10) (by omega)]; exact cq10), ⟨_, hu__1⟩, (by rw [fr__1 (m + 12) (by omega)]; exact cq12), (by rw [fr__1 (m + 13) (by omega)]; exact cq13), (by rw [fr__1 (m + 14) (by omega)]; exact cq14), ⟨_, hg__1⟩, (by rw [fr__1 (m + 16) (by omega)]; exact cq16), (by rw [fr__1 (m + 17) (by omega)]; exact cq17)⟩, hsc, rfl⟩, (fun q hq => fr__1 q (by omega))⟩
          · skip
            refine g_iload_n k rfl dX10_most_71 ?_
            refine g_cSi k (As := [vi (gsF (fun s => unF (bgn φ it L) L it s ch) (2 ^ it) : Int)]) v_X10_bits ml_X10_276 (c_X10_bits (w := gsF (fun s => unF (bgn φ it L) L it s ch) (2 ^ it)) (by omega)) (by omega) (by omega) rfl (Nat.le_of_ble_eq_true rfl) rfl dX10_most_72 (fun r72 h72 p72 => ?_)
            obtain ⟨eh72, p72⟩ := p72
            have eh72 := eh72.symm; subst eh72
            rw [pcH_pc8 _ (by omega)] at p72
            subst p72
            refine g_goto k (tgt := 79) dX10_most_75 (by decide) ?_
            rw [← hQQ]
            refine g_ireti k rfl dX10_most_79 ?_
            exact ⟨⟨fun _ => rfl, fun q => absurd q (by omega), fun q => absurd q (by omega)⟩, ⟨_, ⟨hm__1, ((fr__1 (m + 1) (by omega)).trans cq1), ⟨N, hn__1, hR⟩, (by rw [fr__1 (m + 3) (by omega)]; exact cq3), (by rw [fr__1 (m + 4) (by omega)]; exact cq4), (by rw [fr__1 (m + 5) (by omega)]; exact cq5), (by rw [fr__1 (m + 6) (by omega)]; exact cq6), (by rw [fr__1 (m + 7) (by omega)]; exact cq7), (by rw [fr__1 (m + 8) (by omega)]; exact cq8), (by rw [fr__1 (m + 9) (by omega)]; exact cq9), (by rw [fr__1 (m + 10) (by omega)]; exact cq10), ⟨_, hu__1⟩, (by rw [fr__1 (m + 12) (by omega)]; exact cq12), (by rw [fr__1 (m + 13) (by omega)]; exact cq13), (by rw [fr__1 (m + 14) (by omega)]; exact cq14), ⟨_, hg__1⟩, (by rw [fr__1 (m + 16) (by omega)]; exact cq16), (by rw [fr__1 (m + 17) (by omega)]; exact cq17)⟩, hsc, rfl⟩, (fun q hq => fr__1 q (by omega))⟩
        · skip
          have k1 := pc8_le v
          have k2 := pc8_le (gsF (fun s => unF (bgn φ it L) L it s ch) v)
          refine g_iload k rfl dX10_most_36 ?_
          refine g_cSi k (As := [vi (v : Int)]) v_X10_bits ml_X10_276 (c_X10_bits (w := v) (by omega)) (by omega) (by omega) rfl (Nat.le_of_ble_eq_true rfl) rfl dX10_most_38 (fun r38 h38 p38 => ?_)
          obtain ⟨eh38, p38⟩ := p38
          have eh38 := eh38.symm; subst eh38
          rw [pcH_pc8 _ (by omega)] at p38
          subst p38
          refine g_iload_n k rfl dX10_most_41 ?_
          refine g_cSi k (As := [vi (gsF (fun s => unF (bgn φ it L) L it s ch) v : Int)]) v_X10_bits ml_X10_276 (c_X10_bits (w := gsF (fun s => unF (bgn φ it L) L it s ch) v) (by omega)) (by omega) (by omega) rfl (Nat.le_of_ble_eq_true rfl) rfl dX10_most_42 (fun r42 h42 p42 => ?_)
          obtain ⟨eh42, p42⟩ := p42
          have eh42 := eh42.symm; subst eh42
          rw [pcH_pc8 _ (by omega)] at p42
          subst p42
          refine g_icmp_le k (tgt := 61) (by omega) (by omega) dX10_most_45 (by decide) (fun c45 => ?_) (fun c45 => ?_)
          · skip
            refine g_iinc k (lv2 := [(0, .ref m), (1, vi cz), (2, vi p), (3, vi (gsF (fun s => unF (bgn φ it L) L it s ch) v : Int)), (4, vi ((v : Int) + 1))]) rfl (by decide) rfl rfl dX10_most_61 ?_
            refine g_goto k (tgt := 25) dX10_most_64 (by decide) ?_
            rw [show gsF (fun s => unF (bgn φ it L) L it s ch) v = gsF (fun s => unF (bgn φ it L) L it s ch) (v + 1) by rw [gsF, if_neg (by omega)]]
            exact ih25 (v + 1) (by omega) (by omega)
          · skip
            refine g_aload_n k rfl dX10_most_48 ?_
            refine g_iload k rfl dX10_most_49 ?_
            refine g_iload_n k rfl dX10_most_51 ?_
            refine g_cVi k 10 (As := [vi (v : Int), vi cz]) v_X10_isAlike rfl rfl hm__1 ml_X10_302 (c_X10_isAlike hm__1 hn__1 hR hS hg__1 hO hBg rfl hL60 (s1 := v) (by omega) hc) (by omega) (by omega) rfl (Nat.le_of_ble_eq_true rfl) rfl dX10_most_52 (fun r52 h52 p52 => ?_)
            obtain ⟨eh52, p52⟩ := p52
            have eh52 := eh52.symm; subst eh52
            have q52 := p52
            have q52r := q52.r
            refine g_if_eq k (tgt := 61) (by omega) dX10_most_55 (by decide) (fun c55 => ?_) (fun c55 => ?_)
            · skip
              refine g_iinc k (lv2 := [(0, .ref m), (1, vi cz), (2, vi p), (3, vi (gsF (fun s => unF (bgn φ it L) L it s ch) v : Int)), (4, vi ((v : Int) + 1))]) rfl (by decide) rfl rfl dX10_most_61 ?_
              refine g_goto k (tgt := 25) dX10_most_64 (by decide) ?_
              rw [show gsF (fun s => unF (bgn φ it L) L it s ch) v = gsF (fun s => unF (bgn φ it L) L it s ch) (v + 1) by rw [gsF, if_neg (fun z => q52.f (by omega) z.2.2)]]
              exact ih25 (v + 1) (by omega) (by omega)
            · skip
              refine g_iload k rfl dX10_most_58 ?_
              refine g_istore_n k (lv2 := [(0, .ref m), (1, vi cz), (2, vi p), (3, vi (v : Int)), (4, vi (v : Int))]) (by decide) rfl rfl dX10_most_60 ?_
              refine g_iinc k (lv2 := [(0, .ref m), (1, vi cz), (2, vi p), (3, vi (v : Int)), (4, vi ((v : Int) + 1))]) rfl (by decide) rfl rfl dX10_most_61 ?_
              refine g_goto k (tgt := 25) dX10_most_64 (by decide) ?_
              have eg : gsF (fun s => unF (bgn φ it L) L it s ch) (v + 1) = v := by rw [gsF, if_pos ⟨by omega, by omega, q52.t (by omega)⟩]
              refine g_less (lv2 := [(0, .ref m), (1, vi cz), (2, vi p), (3, vi (gsF (fun s => unF (bgn φ it L) L it s ch) (v + 1) : Int)), (4, vi ((v : Int) + 1))]) ⟨rfl, rfl, rfl, (by rw [eg]; rfl), rfl, trivial⟩ ?_
              exact ih25 (v + 1) (by omega) (by omega)
    refine g_less (lv2 := [(0, .ref m), (1, vi cz), (2, vi p), (3, vi (gsF (fun s => unF (bgn φ it L) L it s ch) 1 : Int)), (4, vi 1)]) ⟨rfl, rfl, rfl, (by rw [show gsF (fun s => unF (bgn φ it L) L it s ch) 1 = 0 by rw [gsF, if_neg (fun z => absurd z.1 (by decide))]; rfl]; rfl), rfl, trivial⟩ ?_
    exact K25 _ 1 (by omega) (Nat.lt_succ_self _)
  · skip
    refine g_iconst k dX10_most_14 ?_
    rw [← hQQ]
    refine g_ireti k rfl dX10_most_15 ?_
    exact ⟨⟨fun q => absurd (q8.f (by omega)) (by omega), fun q => absurd (q8.f (by omega)) (by omega), fun _ => rfl⟩, ⟨_, ⟨hm_, ((fr_ (m + 1) (by omega)).trans cq1), ⟨N, hn_, hR⟩, (by rw [fr_ (m + 3) (by omega)]; exact cq3), (by rw [fr_ (m + 4) (by omega)]; exact cq4), (by rw [fr_ (m + 5) (by omega)]; exact cq5), (by rw [fr_ (m + 6) (by omega)]; exact cq6), (by rw [fr_ (m + 7) (by omega)]; exact cq7), (by rw [fr_ (m + 8) (by omega)]; exact cq8), (by rw [fr_ (m + 9) (by omega)]; exact cq9), (by rw [fr_ (m + 10) (by omega)]; exact cq10), ⟨_, hu_⟩, (by rw [fr_ (m + 12) (by omega)]; exact cq12), (by rw [fr_ (m + 13) (by omega)]; exact cq13), (by rw [fr_ (m + 14) (by omega)]; exact cq14), ⟨_, hg_⟩, (by rw [fr_ (m + 16) (by omega)]; exact cq16), (by rw [fr_ (m + 17) (by omega)]; exact cq17)⟩, hsc, rfl⟩, (fun q hq => fr_ q (by omega))⟩

set_option maxHeartbeats 600000 in
set_option maxRecDepth 100000 in
theorem c_X10_chain {G : Gx} {h : Hp} {nx m : Nat} {it : Nat} {φ : Fs} {ps : List (Nat × Fs)} {im : Nat → Option (Nat × Fs)} {V : RV} {n : Nat} {T : Nat → Int} {ft : Nat} (hM : MS G h m it φ ps im V n T ft) (hS : Sm it φ) {L : Nat} (hL : isL φ it L) {p : Int} (rp : -2147483648 ≤ p ∧ p ≤ 2147483647) : Con G yX10_chain cX10_chain 2 (some .int) 7 0 0 [.ref m, vi p] h nx (PI fun z h' => ((p = 0 → z = (pc8 (gsF (fun s => unF (bgn φ it L) L it s True) (2 ^ it)) : Nat)) ∧ (p = 1 → z = (gsF (fun s => unF (bgn φ it L) L it s True) (2 ^ it) : Nat)) ∧ (¬ (p = 0 ∨ p = 1) → z = -1)) ∧ MT G h' m 0 it φ ps im V n T ft ∧ ∀ q : Nat, (q < m ∨ m + 17 < q) → h' q = h q) := by
  have hM0 := hM
  obtain ⟨th, s, ⟨hm, -⟩, -, -⟩ := hM
  refine Con.of v_X10_chain.2.2.2.2.2.1 (Nat.le_of_ble_eq_true rfl) (lv := [(0, .ref m), (1, vi p)]) rfl (fun X k => ?_)
  generalize hQQ : QM G X nx 0 0 _ = QQ
  refine g_aload_n k rfl dX10_chain_0 ?_
  refine g_iconst k dX10_chain_1 ?_
  refine g_iload_n k rfl dX10_chain_2 ?_
  refine g_cVi k 10 (As := [vi 1, vi p]) v_X10_most rfl rfl hm ml_X10_306 (c_X10_most hM0 hS hL rp (bz.y trivial)) (by omega) (by omega) rfl (Nat.le_of_ble_eq_true rfl) rfl dX10_chain_3 (fun r3 h3 p3 => ?_)
  obtain ⟨hz, hMT, nfr⟩ := p3
  rw [← hQQ]
  refine g_ireti k rfl dX10_chain_6 ?_
  exact ⟨hz, hMT, nfr⟩

set_option maxHeartbeats 600000 in
set_option maxRecDepth 100000 in
theorem c_X10_crowd {G : Gx} {h : Hp} {nx m : Nat} {it : Nat} {φ : Fs} {ps : List (Nat × Fs)} {im : Nat → Option (Nat × Fs)} {V : RV} {n : Nat} {T : Nat → Int} {ft : Nat} (hM : MS G h m it φ ps im V n T ft) (hS : Sm it φ) {L : Nat} (hL : isL φ it L) {p : Int} (rp : -2147483648 ≤ p ∧ p ≤ 2147483647) : Con G yX10_crowd cX10_crowd 2 (some .int) 7 0 0 [.ref m, vi p] h nx (PI fun z h' => ((p = 0 → z = (pc8 (gsF (fun s => unF (bgn φ it L) L it s False) (2 ^ it)) : Nat)) ∧ (p = 1 → z = (gsF (fun s => unF (bgn φ it L) L it s False) (2 ^ it) : Nat)) ∧ (¬ (p = 0 ∨ p = 1) → z = -1)) ∧ MT G h' m 0 it φ ps im V n T ft ∧ ∀ q : Nat, (q < m ∨ m + 17 < q) → h' q = h q) := by
  have hM0 := hM
  obtain ⟨th, s, ⟨hm, -⟩, -, -⟩ := hM
  refine Con.of v_X10_crowd.2.2.2.2.2.1 (Nat.le_of_ble_eq_true rfl) (lv := [(0, .ref m), (1, vi p)]) rfl (fun X k => ?_)
  generalize hQQ : QM G X nx 0 0 _ = QQ
  refine g_aload_n k rfl dX10_crowd_0 ?_
  refine g_iconst k dX10_crowd_1 ?_
  refine g_iload_n k rfl dX10_crowd_2 ?_
  refine g_cVi k 10 (As := [vi 0, vi p]) v_X10_most rfl rfl hm ml_X10_306 (c_X10_most hM0 hS hL rp (bz.n id)) (by omega) (by omega) rfl (Nat.le_of_ble_eq_true rfl) rfl dX10_crowd_3 (fun r3 h3 p3 => ?_)
  obtain ⟨hz, hMT, nfr⟩ := p3
  rw [← hQQ]
  refine g_ireti k rfl dX10_crowd_6 ?_
  exact ⟨hz, hMT, nfr⟩

theorem rm_min (B : Nat → Int) (L : Int) (Q : Nat → Nat) (i : Nat) : rmA B L Q i ≤ i ∧ frF B L Q (rmA B L Q) i (rmA B L Q i) ∧ ∀ s, s < rmA B L Q i → ¬ frF B L Q (rmA B L Q) i s := by
  have hlt : ∀ j, rmA B L Q j ≤ j := by
    intro j
    rw [rmA_eq]
    rcases sr_is (P := frF B L Q (rmA B L Q) j) (n := j + 1) with ⟨e, -⟩ | ⟨k, e, h1, -, -⟩
    · rw [e]; exact Nat.zero_le _
    · rw [e, Int.toNat_natCast]; omega
  have hi : frF B L Q (rmA B L Q) i i := fun j hj e => by have := hlt j; omega
  rcases sr_is (P := frF B L Q (rmA B L Q) i) (n := i + 1) with ⟨-, g⟩ | ⟨k, e, h1, h2, h3⟩
  · exact absurd hi (g i (by omega))
  · have e2 : rmA B L Q i = k := by rw [rmA_eq, e, Int.toNat_natCast]
    rw [e2]
    exact ⟨by omega, h2, h3⟩
theorem Srt_sur {B : Nat → Int} {Q : Nat → Nat} {n : Nat} (h : Srt B Q n) {u : Nat} (hu : u < n) : ∃ j, j < n ∧ Q j = u := by
  apply Classical.byContradiction
  intro q
  have hq : ∀ j, j < n → Q j ≠ u := fun j hj e => q ⟨j, hj, e⟩
  have := php (n - 1) n (fun j => if Q j < u then Q j else Q j - 1) (fun i hi => by
    have h1 := h.1 i hi
    have h2 := hq i hi
    show (if Q i < u then Q i else Q i - 1) < n - 1
    split <;> omega) (fun i j hi hj e => by
    have h1 := h.1 i hi
    have h2 := hq i hi
    have h3 := h.1 j hj
    have h4 := hq j hj
    have e' : (if Q i < u then Q i else Q i - 1) = (if Q j < u then Q j else Q j - 1) := e
    refine h.inj hi hj ?_
    split at e' <;> split at e' <;> omega)
  omega
/-- done: the first n of the queue -/
def Dn (Q : Nat → Nat) (it n d : Nat) : Prop := d < 256 ∧ ∀ u, u < it → (bitN d u ↔ ∃ j, j < n ∧ Q j = u)
theorem sel {B : Nat → Int} {Q : Nat → Nat} {it n d p : Nat} (hs : Srt B Q it) (hd : Dn Q it n d) (hn : n < it) (hp : p < it) (h1 : ¬ bitN d p) (h2 : ∀ u, u < it → ¬ bitN d u → u = p ∨ lx B p u) : p = Q n := by
  have hqn := hs.1 n hn
  have g1 : ¬ bitN d (Q n) := fun q => by
    obtain ⟨j, j1, j2⟩ := (hd.2 (Q n) hqn).mp q
    have := hs.inj (show j < it by omega) hn j2
    omega
  rcases h2 (Q n) hqn g1 with e | g
  · exact e.symm
  · obtain ⟨i, i1, i2⟩ := Srt_sur hs hp
    rcases Nat.lt_trichotomy i n with z | z | z
    · exact absurd ((hd.2 p hp).mpr ⟨i, z, i2⟩) h1
    · rw [← z]; exact i2.symm
    · have := hs.2 n i z i1
      rw [i2] at this
      unfold lx at this g
      omega
theorem bit_or {d p u : Nat} : bitN (d ||| 2 ^ p) u ↔ bitN d u ∨ u = p := by
  have e : ∀ w k, bitN w k ↔ w.testBit k = true := fun w k => by unfold bitN; rw [Nat.testBit_eq_decide_div_mod_eq, decide_eq_true_iff]
  rw [e, e, Nat.testBit_or, Bool.or_eq_true, Nat.testBit_two_pow, decide_eq_true_iff]
  exact ⟨fun h => h.imp id Eq.symm, fun h => h.imp id Eq.symm⟩
theorem Dn.step {Q : Nat → Nat} {it n d : Nat} (h : Dn Q it n d) (h8 : it ≤ 8) (hq : Q n < it) : Dn Q it (n + 1) (d ||| 2 ^ Q n) := by
  refine ⟨Nat.or_lt_two_pow (n := 8) h.1 (Nat.pow_lt_pow_right (by decide) (by omega)), fun u hu => ?_⟩
  rw [bit_or, h.2 u hu]
  constructor
  · rintro (⟨j, j1, j2⟩ | rfl)
    · exact ⟨j, by omega, j2⟩
    · exact ⟨n, by omega, rfl⟩
  · rintro ⟨j, j1, j2⟩
    by_cases e : j = n
    · subst e; exact Or.inr j2.symm
    · exact Or.inl ⟨j, by omega, j2⟩
set_option maxHeartbeats 600000 in
set_option maxRecDepth 100000 in
theorem c_X10_isFree {G : Gx} {h : Hp} {nx : Nat} {m : Nat} {s : Nat → Int} (hm : h m = some (mo m s)) {N : Nat → Int} {it : Nat} {φ : Fs} (hn : h (m + 2) = some (ai G 86 N)) (hR : Rw N it φ) (hS : Sm it φ) {Bg : Nat → Int} (hg : h (m + 15) = some (ai G 8 Bg)) {B : Nat → Int} {L : Int} (hO : OK8 B it) (hB : ∀ v, v < it → Bg v = B v) (z19 : s 19 = L) (hL : 1 ≤ L ∧ L ≤ 60) {Q : Nat → Nat} (hs : Srt B Q it) {Ro : Nat → Int} (hro : h (m + 16) = some (ai G 8 Ro)) {n r1 d : Nat} (hn1 : n < it) (hr1 : r1 < 16) (hd : Dn Q it n d) (hrm : ∀ j, j < n → Ro (Q j) = rmA B L Q j) : Con G yX10_isFree cX10_isFree 5 (some .boolean) 2 0 0 [.ref m, vi (r1 : Int), vi (Q n : Int), vi (d : Int)] h nx (PI fun z h' => h' = h ∧ bz (frF B L Q (rmA B L Q) n r1) z) := by
  obtain ⟨h8, h28, hsm⟩ := id hS
  have hqn := hs.1 n hn1
  have hd256 := hd.1
  refine Con.of v_X10_isFree.2.2.2.2.2.1 (Nat.le_of_ble_eq_true rfl) (lv := [(0, .ref m), (1, vi (r1 : Int)), (2, vi (Q n : Int)), (3, vi (d : Int))]) rfl (fun X k => ?_)
  generalize hQQ : QM G X nx 0 0 _ = QQ
  refine g_iconst k dX10_isFree_0 ?_
  refine g_istore k (lv2 := [(0, .ref m), (1, vi (r1 : Int)), (2, vi (Q n : Int)), (3, vi (d : Int)), (4, vi 0)]) (by decide) rfl rfl dX10_isFree_1 ?_
  have K3 : ∀ (nz : Nat) (u : Nat) (hu : u ≤ it) (hno : ∀ j, j < n → Q j < u → rmA B L Q j = r1 → pre B L (Q j) (Q n)) (hmz : it - u < nz), Go G X 5 QQ 0 0 nx 3 [(0, .ref m), (1, vi (r1 : Int)), (2, vi (Q n : Int)), (3, vi (d : Int)), (4, vi (u : Int))] [] h := by
    intro nz
    induction nz with
    | zero => intro u hu hno hmz; exact absurd hmz (Nat.not_lt_zero _)
    | succ nz ih3 =>
      intro u hu hno hmz
      refine g_iload k rfl dX10_isFree_3 ?_
      refine g_aload_n k rfl dX10_isFree_5 ?_
      refine g_cVi k 10 (As := []) v_X10_items rfl rfl hm ml_X10_228 (c_X10_items hm hn hR hS) (by omega) (by omega) rfl (Nat.le_of_ble_eq_true rfl) rfl dX10_isFree_6 (fun r6 h6 p6 => ?_)
      obtain ⟨eh6, p6⟩ := p6
      have eh6 := eh6.symm; subst eh6
      subst p6
      refine g_icmp_ge k (tgt := 50) (by omega) (by omega) dX10_isFree_9 (by decide) (fun c9 => ?_) (fun c9 => ?_)
      · skip
        refine g_iconst k dX10_isFree_50 ?_
        rw [← hQQ]
        refine g_zreti k (by omega) rfl dX10_isFree_51 ?_
        exact ⟨rfl, bz.y (fun j hj e => hno j hj (by have := hs.1 j (by omega); omega) e)⟩
      · skip
        refine g_iload_n k rfl dX10_isFree_12 ?_
        refine g_iload k rfl dX10_isFree_13 ?_
        refine g_cSi k (As := [vi (d : Int), vi (u : Int)]) v_X10_has ml_X10_286 (c_X10_has (w := d) (k1 := u) (by omega) (by omega)) (by omega) (by omega) rfl (Nat.le_of_ble_eq_true rfl) rfl dX10_isFree_15 (fun r15 h15 p15 => ?_)
        obtain ⟨eh15, p15⟩ := p15
        have eh15 := eh15.symm; subst eh15
        have q15 := p15
        have q15r := q15.r
        refine g_if_eq k (tgt := 44) (by omega) dX10_isFree_18 (by decide) (fun c18 => ?_) (fun c18 => ?_)
        · skip
          refine g_iinc k (lv2 := [(0, .ref m), (1, vi (r1 : Int)), (2, vi (Q n : Int)), (3, vi (d : Int)), (4, vi ((u : Int) + 1))]) rfl (by decide) rfl rfl dX10_isFree_44 ?_
          refine g_goto k (tgt := 3) dX10_isFree_47 (by decide) ?_
          exact ih3 (u + 1) (by omega) (fun j hj g e => by by_cases g2 : Q j < u; exact hno j hj g2 e; exact absurd ((hd.2 u (by omega)).mpr ⟨j, hj, by omega⟩) (q15.f (by omega))) (by omega)
        · skip
          obtain ⟨j, j1, j2⟩ := (hd.2 u (by omega)).mp (q15.t (by omega))
          have hrj := hrm j j1
          rw [j2] at hrj
          have hrl := (rm_min B L Q j).1
          refine g_aload_n k rfl dX10_isFree_21 ?_
          refine g_get k 10 35 (C := RX10) (T := TX10) (N := 38) fl_X10_121 rfl wi_X10 (by decide) rfl hm rfl dX10_isFree_22 ?_
          refine g_iload k rfl dX10_isFree_25 ?_
          refine g_iald k u hro (by omega) (by omega) (by decide) dX10_isFree_27 ?_
          refine g_iload_n k rfl dX10_isFree_28 ?_
          refine g_icmp_ne k (tgt := 44) (by omega) (by omega) dX10_isFree_29 (by decide) (fun c29 => ?_) (fun c29 => ?_)
          · skip
            refine g_iinc k (lv2 := [(0, .ref m), (1, vi (r1 : Int)), (2, vi (Q n : Int)), (3, vi (d : Int)), (4, vi ((u : Int) + 1))]) rfl (by decide) rfl rfl dX10_isFree_44 ?_
            refine g_goto k (tgt := 3) dX10_isFree_47 (by decide) ?_
            exact ih3 (u + 1) (by omega) (fun j hj g e => by by_cases g2 : Q j < u; exact hno j hj g2 e; (have e2 := hrm j hj; rw [show Q j = u by omega] at e2; omega)) (by omega)
          · skip
            refine g_aload_n k rfl dX10_isFree_32 ?_
            refine g_iload k rfl dX10_isFree_33 ?_
            refine g_iload_n k rfl dX10_isFree_35 ?_
            refine g_cVi k 10 (As := [vi (u : Int), vi (Q n : Int)]) v_X10_isAhead rfl rfl hm ml_X10_299 (c_X10_isAhead hm hg hO hB z19 hL (x := u) (y := Q n) (by omega) (by omega)) (by omega) (by omega) rfl (Nat.le_of_ble_eq_true rfl) rfl dX10_isFree_36 (fun r36 h36 p36 => ?_)
            obtain ⟨eh36, p36⟩ := p36
            have eh36 := eh36.symm; subst eh36
            have q36 := p36
            have q36r := q36.r
            refine g_if_ne k (tgt := 44) (by omega) dX10_isFree_39 (by decide) (fun c39 => ?_) (fun c39 => ?_)
            · skip
              refine g_iinc k (lv2 := [(0, .ref m), (1, vi (r1 : Int)), (2, vi (Q n : Int)), (3, vi (d : Int)), (4, vi ((u : Int) + 1))]) rfl (by decide) rfl rfl dX10_isFree_44 ?_
              refine g_goto k (tgt := 3) dX10_isFree_47 (by decide) ?_
              exact ih3 (u + 1) (by omega) (fun j hj g e => by by_cases g2 : Q j < u; exact hno j hj g2 e; (rw [show Q j = u by omega]; exact q36.t (by omega))) (by omega)
            · skip
              refine g_iconst k dX10_isFree_42 ?_
              rw [← hQQ]
              refine g_zreti k (by omega) rfl dX10_isFree_43 ?_
              exact ⟨rfl, bz.n (fun q => q36.f (by omega) (by rw [← j2]; exact q j j1 (by omega)))⟩
  exact K3 _ 0 (Nat.zero_le _) (fun j hj g => absurd g (Nat.not_lt_zero _)) (Nat.lt_succ_self _)

set_option maxHeartbeats 600000 in
set_option maxRecDepth 100000 in
theorem c_X10_laysRooms {G : Gx} {h : Hp} {nx : Nat} {m : Nat} {s : Nat → Int} (hm : h m = some (mo m s)) {N : Nat → Int} {it : Nat} {φ : Fs} (hn : h (m + 2) = some (ai G 86 N)) (hR : Rw N it φ) (hS : Sm it φ) {S : Nat → Int} (hu : h (m + 11) = some (ai G 64 S)) {Bg : Nat → Int} (hg : h (m + 15) = some (ai G 8 Bg)) {L : Nat} (hL : isL φ it L) {Q : Nat → Nat} (hs : Srt (bgn φ it L) Q it) {Ro : Nat → Int} (hro : h (m + 16) = some (ai G 8 Ro)) : Con G yX10_laysRooms cX10_laysRooms 6 (some .int) 6 0 0 [.ref m] h nx (PI fun z h' => z = (rmN (bgn φ it L) L Q it : Nat) ∧ (h' m = some (mo m (fu s 19 (L : Int))) ∧ aI G 64 (h' (m + 11)) ∧ aI G 8 (h' (m + 15)) ∧ ∃ R2 : Nat → Int, h' (m + 16) = some (ai G 8 R2) ∧ ∀ j, j < it → R2 (Q j) = rmA (bgn φ it L) L Q j) ∧ ∀ q : Nat, (q ≠ m ∧ q ≠ m + 11 ∧ q ≠ m + 15 ∧ q ≠ m + 16) → h' q = h q) := by
  obtain ⟨h8, h28, hsm⟩ := id hS
  have hO := bgn_ok hS.1 hL
  obtain ⟨l1, l2, l3, l4⟩ := id hL
  have hL60 : 1 ≤ (L : Int) ∧ (L : Int) ≤ 60 := by omega
  have hob := hO.2
  refine Con.of v_X10_laysRooms.2.2.2.2.2.1 (Nat.le_of_ble_eq_true rfl) (lv := [(0, .ref m)]) rfl (fun X k => ?_)
  generalize hQQ : QM G X nx 0 0 _ = QQ
  have fr0 : ∀ q : Nat, (q ≠ m ∧ q ≠ m + 11 ∧ q ≠ m + 15 ∧ q ≠ m + 16) → h q = h q := fun _ _ => rfl
  refine g_aload_n k rfl dX10_laysRooms_0 ?_
  refine g_cVv k 10 (As := []) v_X10_laysOrder rfl rfl hm ml_X10_296 (c_X10_laysOrder hm hn hR hS hu hg hL) (by omega) (by omega) rfl (Nat.le_of_ble_eq_true rfl) rfl dX10_laysRooms_1 (fun h1 p1 => ?_)
  obtain ⟨⟨nm9, ⟨S9, nu9⟩, B9, ng9, hBg⟩, nfr9⟩ := p1
  have hm_ : h1 m = some (mo m (fu s 19 (L : Int))) := nm9
  have hn_ : h1 (m + 2) = some (ai G 86 N) := (nfr9 _ (by omega)).trans hn
  have hu_ : h1 (m + 11) = some (ai G 64 S9) := nu9
  have hg_ : h1 (m + 15) = some (ai G 8 B9) := ng9
  have hro_ : h1 (m + 16) = some (ai G 8 Ro) := (nfr9 _ (by omega)).trans hro
  have fr_ : ∀ q : Nat, (q ≠ m ∧ q ≠ m + 11 ∧ q ≠ m + 15 ∧ q ≠ m + 16) → h1 q = h q := fun q hq => (nfr9 q (by omega)).trans (fr0 q hq)
  refine g_iconst k dX10_laysRooms_4 ?_
  refine g_istore_n k (lv2 := [(0, .ref m), (1, vi 0)]) (by decide) rfl rfl dX10_laysRooms_5 ?_
  refine g_iconst k dX10_laysRooms_6 ?_
  refine g_istore_n k (lv2 := [(0, .ref m), (1, vi 0), (2, vi 0)]) (by decide) rfl rfl dX10_laysRooms_7 ?_
  refine g_iconst k dX10_laysRooms_8 ?_
  refine g_istore_n k (lv2 := [(0, .ref m), (1, vi 0), (2, vi 0), (3, vi 0)]) (by decide) rfl rfl dX10_laysRooms_9 ?_
  have K10 : ∀ (nz : Nat) (n : Nat) (d : Nat) (R1 : Nat → Int) (h10 : Hp) (hm__1 : h10 m = some (mo m (fu s 19 (L : Int)))) (hn__1 : h10 (m + 2) = some (ai G 86 N)) (hu__1 : h10 (m + 11) = some (ai G 64 S9)) (hg__1 : h10 (m + 15) = some (ai G 8 B9)) (hro__1 : h10 (m + 16) = some (ai G 8 R1)) (fr__1 : ∀ q : Nat, (q ≠ m ∧ q ≠ m + 11 ∧ q ≠ m + 15 ∧ q ≠ m + 16) → h10 q = h q) (hn1 : n ≤ it) (hd : Dn Q it n d) (hrm : ∀ j, j < n → R1 (Q j) = rmA (bgn φ it L) L Q j) (hmz : it - n < nz), Go G X 6 QQ 0 0 nx 10 [(0, .ref m), (1, vi (d : Int)), (2, vi (rmN (bgn φ it L) L Q n : Int)), (3, vi (n : Int))] [] h10 := by
    intro nz
    induction nz with
    | zero => intro n d R1 h10 hm__1 hn__1 hu__1 hg__1 hro__1 fr__1 hn1 hd hrm hmz; exact absurd hmz (Nat.not_lt_zero _)
    | succ nz ih10 =>
      intro n d R1 h10 hm__1 hn__1 hu__1 hg__1 hro__1 fr__1 hn1 hd hrm hmz
      refine g_iload_n k rfl dX10_laysRooms_10 ?_
      refine g_aload_n k rfl dX10_laysRooms_11 ?_
      refine g_cVi k 10 (As := []) v_X10_items rfl rfl hm__1 ml_X10_228 (c_X10_items hm__1 hn__1 hR hS) (by omega) (by omega) rfl (Nat.le_of_ble_eq_true rfl) rfl dX10_laysRooms_12 (fun r12 h12 p12 => ?_)
      obtain ⟨eh12, p12⟩ := p12
      have eh12 := eh12.symm; subst eh12
      subst p12
      refine g_icmp_ge k (tgt := 129) (by omega) (by omega) dX10_laysRooms_15 (by decide) (fun c15 => ?_) (fun c15 => ?_)
      · skip
        refine g_iload_n k rfl dX10_laysRooms_129 ?_
        rw [← hQQ]
        refine g_ireti k rfl dX10_laysRooms_130 ?_
        have e : n = it := by omega
        exact ⟨by rw [e], ⟨hm__1, ⟨_, hu__1⟩, ⟨_, hg__1⟩, R1, hro__1, fun j hj => hrm j (by omega)⟩, fr__1⟩
      · skip
        have hqn := hs.1 n (by omega)
        have hmin := rm_min (bgn φ it L) L Q n
        have hmin1 := hmin.1
        have hd256 := hd.1
        have hrb := (rm_b (bgn φ it L) L Q n).1
        refine g_iconst k dX10_laysRooms_18 ?_
        refine g_istore k (lv2 := [(0, .ref m), (1, vi (d : Int)), (2, vi (rmN (bgn φ it L) L Q n : Int)), (3, vi (n : Int)), (4, vi (-1))]) (by decide) rfl rfl dX10_laysRooms_19 ?_
        refine g_iconst k dX10_laysRooms_21 ?_
        refine g_istore k (lv2 := [(0, .ref m), (1, vi (d : Int)), (2, vi (rmN (bgn φ it L) L Q n : Int)), (3, vi (n : Int)), (4, vi (-1)), (5, vi 0)]) (by decide) rfl rfl dX10_laysRooms_22 ?_
        have K24 : ∀ (nz_1 : Nat) (u : Nat) (pz : Int) (hu2 : u ≤ it) (hpz : (pz = -1 ∧ ∀ v, v < u → bitN d v) ∨ ∃ pn : Nat, pz = pn ∧ pn < u ∧ ¬ bitN d pn ∧ ∀ v, v < u → ¬ bitN d v → v = pn ∨ lx (bgn φ it L) pn v) (hmz_1 : it - u < nz_1), Go G X 6 QQ 0 0 nx 24 [(0, .ref m), (1, vi (d : Int)), (2, vi (rmN (bgn φ it L) L Q n : Int)), (3, vi (n : Int)), (4, vi pz), (5, vi (u : Int))] [] h10 := by
          intro nz_1
          induction nz_1 with
          | zero => intro u pz hu2 hpz hmz_1; exact absurd hmz_1 (Nat.not_lt_zero _)
          | succ nz_1 ih24 =>
            intro u pz hu2 hpz hmz_1
            refine g_iload k rfl dX10_laysRooms_24 ?_
            refine g_aload_n k rfl dX10_laysRooms_26 ?_
            refine g_cVi k 10 (As := []) v_X10_items rfl rfl hm__1 ml_X10_228 (c_X10_items hm__1 hn__1 hR hS) (by omega) (by omega) rfl (Nat.le_of_ble_eq_true rfl) rfl dX10_laysRooms_27 (fun r27 h27 p27 => ?_)
            obtain ⟨eh27, p27⟩ := p27
            have eh27 := eh27.symm; subst eh27
            subst p27
            refine g_icmp_ge k (tgt := 75) (by omega) (by omega) dX10_laysRooms_30 (by decide) (fun c30 => ?_) (fun c30 => ?_)
            · skip
              have eq : pz = (Q n : Int) := by
                rcases hpz with ⟨a1, a2⟩ | ⟨pn, a1, a2, a3, a4⟩
                · obtain ⟨j, j1, j2⟩ := (hd.2 (Q n) hqn).mp (a2 (Q n) (by omega))
                  have := hs.inj (show j < it by omega) (show n < it by omega) j2
                  omega
                · rw [a1, sel hs hd (by omega) (show pn < it by omega) a3 (fun v hv => a4 v (by omega))]
              rw [eq]
              refine g_iconst k dX10_laysRooms_75 ?_
              refine g_istore k (lv2 := [(0, .ref m), (1, vi (d : Int)), (2, vi (rmN (bgn φ it L) L Q n : Int)), (3, vi (n : Int)), (4, vi (Q n : Int)), (5, vi 0)]) (by decide) rfl rfl dX10_laysRooms_76 ?_
              have K78 : ∀ (nz_2 : Nat) (r1 : Nat) (hr1 : r1 ≤ rmA (bgn φ it L) L Q n) (hmz_2 : rmA (bgn φ it L) L Q n - r1 < nz_2), Go G X 6 QQ 0 0 nx 78 [(0, .ref m), (1, vi (d : Int)), (2, vi (rmN (bgn φ it L) L Q n : Int)), (3, vi (n : Int)), (4, vi (Q n : Int)), (5, vi (r1 : Int))] [] h10 := by
                intro nz_2
                induction nz_2 with
                | zero => intro r1 hr1 hmz_2; exact absurd hmz_2 (Nat.not_lt_zero _)
                | succ nz_2 ih78 =>
                  intro r1 hr1 hmz_2
                  refine g_aload_n k rfl dX10_laysRooms_78 ?_
                  refine g_iload k rfl dX10_laysRooms_79 ?_
                  refine g_iload k rfl dX10_laysRooms_81 ?_
                  refine g_iload_n k rfl dX10_laysRooms_83 ?_
                  refine g_cVi k 10 (As := [vi (r1 : Int), vi (Q n : Int), vi (d : Int)]) v_X10_isFree rfl rfl hm__1 ml_X10_310 (c_X10_isFree hm__1 hn__1 hR hS hg__1 hO hBg rfl hL60 hs hro__1 (n := n) (r1 := r1) (d := d) (by omega) (by omega) hd hrm) (by omega) (by omega) rfl (Nat.le_of_ble_eq_true rfl) rfl dX10_laysRooms_84 (fun r84 h84 p84 => ?_)
                  obtain ⟨eh84, p84⟩ := p84
                  have eh84 := eh84.symm; subst eh84
                  have q84 := p84
                  have q84r := q84.r
                  refine g_if_ne k (tgt := 96) (by omega) dX10_laysRooms_87 (by decide) (fun c87 => ?_) (fun c87 => ?_)
                  · skip
                    have hyf := q84.t (by omega)
                    have er : rmA (bgn φ it L) L Q n = r1 := Nat.le_antisymm (Nat.not_lt.mp (fun g => hmin.2.2 r1 g hyf)) hr1
                    have hpw := pow31 (n := Q n) (by omega)
                    refine g_aload_n k rfl dX10_laysRooms_96 ?_
                    refine g_get k 10 35 (v := .ref (m + 16)) (C := RX10) (T := TX10) (N := 38) fl_X10_121 rfl wi_X10 (by decide) rfl hm__1 rfl dX10_laysRooms_97 ?_
                    refine g_iload k rfl dX10_laysRooms_100 ?_
                    refine g_iload k rfl dX10_laysRooms_102 ?_
                    refine g_iast k (Q n) hro__1 (by omega) (by omega) (by decide) dX10_laysRooms_104 (fun h104 eh104 => ?_)
                    have hm__2 : h104 m = some (mo m (fu s 19 (L : Int))) := (congrFun eh104 _).trans ((hup_n (by omega)).trans hm__1)
                    have hn__2 : h104 (m + 2) = some (ai G 86 N) := (congrFun eh104 _).trans ((hup_n (by omega)).trans hn__1)
                    have hu__2 : h104 (m + 11) = some (ai G 64 S9) := (congrFun eh104 _).trans ((hup_n (by omega)).trans hu__1)
                    have hg__2 : h104 (m + 15) = some (ai G 8 B9) := (congrFun eh104 _).trans ((hup_n (by omega)).trans hg__1)
                    have hro__2 : h104 (m + 16) = some (ai G 8 (fu R1 (Q n) (r1 : Int))) := (congrFun eh104 _).trans hup_s
                    have fr__2 : ∀ q : Nat, (q ≠ m ∧ q ≠ m + 11 ∧ q ≠ m + 15 ∧ q ≠ m + 16) → h104 q = h q := fun q hq => (congrFun eh104 q).trans ((hup_n (by omega)).trans (fr__1 q hq))
                    refine g_iload_n k rfl dX10_laysRooms_105 ?_
                    refine g_iconst k dX10_laysRooms_106 ?_
                    refine g_iload k rfl dX10_laysRooms_107 ?_
                    refine g_ishl k (by omega) dX10_laysRooms_109 ?_
                    rw [show 1 * 2 ^ ((Q n : Int)).toNat = ((2 ^ Q n : Nat) : Int) from (by rw [Int.toNat_natCast]; simp)]
                    refine g_ior k (a := d) (b := 2 ^ Q n) (by omega) (by omega) dX10_laysRooms_110 ?_
                    refine g_istore_n k (lv2 := [(0, .ref m), (1, vi ((d ||| 2 ^ Q n : Nat) : Int)), (2, vi (rmN (bgn φ it L) L Q n : Int)), (3, vi (n : Int)), (4, vi (Q n : Int)), (5, vi (r1 : Int))]) (by decide) rfl rfl dX10_laysRooms_111 ?_
                    refine g_iload k rfl dX10_laysRooms_112 ?_
                    refine g_iload_n k rfl dX10_laysRooms_114 ?_
                    refine g_icmp_lt k (tgt := 123) (by omega) (by omega) dX10_laysRooms_115 (by decide) (fun c115 => ?_) (fun c115 => ?_)
                    · skip
                      refine g_iinc k (lv2 := [(0, .ref m), (1, vi ((d ||| 2 ^ Q n : Nat) : Int)), (2, vi (rmN (bgn φ it L) L Q n : Int)), (3, vi ((n : Int) + 1)), (4, vi (Q n : Int)), (5, vi (r1 : Int))]) rfl (by decide) rfl rfl dX10_laysRooms_123 ?_
                      refine g_goto k (tgt := 10) dX10_laysRooms_126 (by decide) ?_
                      refine g_less (lv2 := [(0, .ref m), (1, vi ((d ||| 2 ^ Q n : Nat) : Int)), (2, vi (rmN (bgn φ it L) L Q n : Int)), (3, vi ((n : Int) + 1))]) ⟨rfl, rfl, rfl, rfl, trivial⟩ ?_
                      rw [show rmN (bgn φ it L) L Q n = rmN (bgn φ it L) L Q (n + 1) by rw [rmN, if_neg (by omega)]]
                      exact ih10 (n + 1) (d ||| 2 ^ Q n) _ h104 hm__2 hn__2 hu__2 hg__2 hro__2 fr__2 (by omega) (hd.step h8 (by omega)) (lt_s2 (fun j hj => (fu_n (fun e => by have := hs.inj (show j < it by omega) (show n < it by omega) e; omega)).trans (hrm j hj)) (by rw [fu_s, er])) (by omega)
                    · skip
                      refine g_iload k rfl dX10_laysRooms_118 ?_
                      refine g_iconst k dX10_laysRooms_120 ?_
                      refine g_iadd k dX10_laysRooms_121 ?_
                      refine g_istore_n k (lv2 := [(0, .ref m), (1, vi ((d ||| 2 ^ Q n : Nat) : Int)), (2, vi ((r1 : Int) + 1)), (3, vi (n : Int)), (4, vi (Q n : Int)), (5, vi (r1 : Int))]) (by decide) rfl rfl dX10_laysRooms_122 ?_
                      refine g_iinc k (lv2 := [(0, .ref m), (1, vi ((d ||| 2 ^ Q n : Nat) : Int)), (2, vi ((r1 : Int) + 1)), (3, vi ((n : Int) + 1)), (4, vi (Q n : Int)), (5, vi (r1 : Int))]) rfl (by decide) rfl rfl dX10_laysRooms_123 ?_
                      refine g_goto k (tgt := 10) dX10_laysRooms_126 (by decide) ?_
                      refine g_less (lv2 := [(0, .ref m), (1, vi ((d ||| 2 ^ Q n : Nat) : Int)), (2, vi ((r1 : Int) + 1)), (3, vi ((n : Int) + 1))]) ⟨rfl, rfl, rfl, rfl, trivial⟩ ?_
                      rw [show (r1 : Int) + 1 = (rmN (bgn φ it L) L Q (n + 1) : Nat) by rw [rmN, if_pos (by omega)]; omega]
                      exact ih10 (n + 1) (d ||| 2 ^ Q n) _ h104 hm__2 hn__2 hu__2 hg__2 hro__2 fr__2 (by omega) (hd.step h8 (by omega)) (lt_s2 (fun j hj => (fu_n (fun e => by have := hs.inj (show j < it by omega) (show n < it by omega) e; omega)).trans (hrm j hj)) (by rw [fu_s, er])) (by omega)
                  · skip
                    have hnf := q84.f (by omega)
                    have hlt : r1 < rmA (bgn φ it L) L Q n := Nat.lt_of_le_of_ne hr1 (fun e => hnf (by rw [e]; exact hmin.2.1))
                    refine g_iinc k (lv2 := [(0, .ref m), (1, vi (d : Int)), (2, vi (rmN (bgn φ it L) L Q n : Int)), (3, vi (n : Int)), (4, vi (Q n : Int)), (5, vi ((r1 : Int) + 1))]) rfl (by decide) rfl rfl dX10_laysRooms_90 ?_
                    refine g_goto k (tgt := 78) dX10_laysRooms_93 (by decide) ?_
                    exact ih78 (r1 + 1) (by omega) (by omega)
              exact K78 _ 0 (Nat.zero_le _) (Nat.lt_succ_self _)
            · skip
              refine g_iload_n k rfl dX10_laysRooms_33 ?_
              refine g_iload k rfl dX10_laysRooms_34 ?_
              refine g_cSi k (As := [vi (d : Int), vi (u : Int)]) v_X10_has ml_X10_286 (c_X10_has (w := d) (k1 := u) (by omega) (by omega)) (by omega) (by omega) rfl (Nat.le_of_ble_eq_true rfl) rfl dX10_laysRooms_36 (fun r36 h36 p36 => ?_)
              obtain ⟨eh36, p36⟩ := p36
              have eh36 := eh36.symm; subst eh36
              have q36 := p36
              have q36r := q36.r
              refine g_if_ne k (tgt := 69) (by omega) dX10_laysRooms_39 (by decide) (fun c39 => ?_) (fun c39 => ?_)
              · skip
                refine g_iinc k (lv2 := [(0, .ref m), (1, vi (d : Int)), (2, vi (rmN (bgn φ it L) L Q n : Int)), (3, vi (n : Int)), (4, vi pz), (5, vi ((u : Int) + 1))]) rfl (by decide) rfl rfl dX10_laysRooms_69 ?_
                refine g_goto k (tgt := 24) dX10_laysRooms_72 (by decide) ?_
                exact ih24 (u + 1) _ (by omega) (by have hy := q36.t (by omega); rcases hpz with ⟨a1, a2⟩ | ⟨pn, a1, a2, a3, a4⟩; exact Or.inl ⟨a1, lt_s2 a2 hy⟩; exact Or.inr ⟨pn, a1, by omega, a3, lt_s2 a4 (fun g => absurd hy g)⟩) (by omega)
              · skip
                have hpr : -1 ≤ pz ∧ pz ≤ 8 := by rcases hpz with ⟨a1, -⟩ | ⟨pn, a1, a2, -⟩ <;> omega
                refine g_iload k rfl dX10_laysRooms_42 ?_
                refine g_iconst k dX10_laysRooms_44 ?_
                refine g_icmp_eq k (tgt := 65) (by omega) (by omega) dX10_laysRooms_45 (by decide) (fun c45 => ?_) (fun c45 => ?_)
                · skip
                  refine g_iload k rfl dX10_laysRooms_65 ?_
                  refine g_istore k (lv2 := [(0, .ref m), (1, vi (d : Int)), (2, vi (rmN (bgn φ it L) L Q n : Int)), (3, vi (n : Int)), (4, vi (u : Int)), (5, vi (u : Int))]) (by decide) rfl rfl dX10_laysRooms_67 ?_
                  refine g_iinc k (lv2 := [(0, .ref m), (1, vi (d : Int)), (2, vi (rmN (bgn φ it L) L Q n : Int)), (3, vi (n : Int)), (4, vi (u : Int)), (5, vi ((u : Int) + 1))]) rfl (by decide) rfl rfl dX10_laysRooms_69 ?_
                  refine g_goto k (tgt := 24) dX10_laysRooms_72 (by decide) ?_
                  exact ih24 (u + 1) _ (by omega) (by have hy := q36.f (by omega); rcases hpz with ⟨a1, a2⟩ | ⟨pn, a1, a2, a3, a4⟩; exact Or.inr ⟨u, rfl, by omega, hy, lt_s2 (fun v hv g => absurd (a2 v hv) g) (fun _ => Or.inl rfl)⟩; omega) (by omega)
                · skip
                  obtain ⟨pn, a1, a2, a3, a4⟩ := hpz.resolve_left (fun g => by omega)
                  have hbu := hob u (by omega)
                  have hbp := hob pn (by omega)
                  refine g_aload_n k rfl dX10_laysRooms_48 ?_
                  refine g_get k 10 32 (v := .ref (m + 15)) (C := RX10) (T := TX10) (N := 38) fl_X10_118 rfl wi_X10 (by decide) rfl hm__1 rfl dX10_laysRooms_49 ?_
                  refine g_iload k rfl dX10_laysRooms_52 ?_
                  refine g_iald k u hg__1 (by omega) (by omega) (by decide) dX10_laysRooms_54 ?_
                  rw [show B9 u = bgn φ it L u from hBg _ (by omega)]
                  refine g_aload_n k rfl dX10_laysRooms_55 ?_
                  refine g_get k 10 32 (v := .ref (m + 15)) (C := RX10) (T := TX10) (N := 38) fl_X10_118 rfl wi_X10 (by decide) rfl hm__1 rfl dX10_laysRooms_56 ?_
                  refine g_iload k rfl dX10_laysRooms_59 ?_
                  refine g_iald k pn hg__1 (by omega) (by omega) (by decide) dX10_laysRooms_61 ?_
                  rw [show B9 pn = bgn φ it L pn from hBg _ (by omega)]
                  refine g_icmp_ge k (tgt := 69) (by omega) (by omega) dX10_laysRooms_62 (by decide) (fun c62 => ?_) (fun c62 => ?_)
                  · skip
                    refine g_iinc k (lv2 := [(0, .ref m), (1, vi (d : Int)), (2, vi (rmN (bgn φ it L) L Q n : Int)), (3, vi (n : Int)), (4, vi pz), (5, vi ((u : Int) + 1))]) rfl (by decide) rfl rfl dX10_laysRooms_69 ?_
                    refine g_goto k (tgt := 24) dX10_laysRooms_72 (by decide) ?_
                    exact ih24 (u + 1) _ (by omega) (Or.inr ⟨pn, a1, by omega, a3, lt_s2 a4 (fun _ => Or.inr (by unfold lx; omega))⟩) (by omega)
                  · skip
                    refine g_iload k rfl dX10_laysRooms_65 ?_
                    refine g_istore k (lv2 := [(0, .ref m), (1, vi (d : Int)), (2, vi (rmN (bgn φ it L) L Q n : Int)), (3, vi (n : Int)), (4, vi (u : Int)), (5, vi (u : Int))]) (by decide) rfl rfl dX10_laysRooms_67 ?_
                    refine g_iinc k (lv2 := [(0, .ref m), (1, vi (d : Int)), (2, vi (rmN (bgn φ it L) L Q n : Int)), (3, vi (n : Int)), (4, vi (u : Int)), (5, vi ((u : Int) + 1))]) rfl (by decide) rfl rfl dX10_laysRooms_69 ?_
                    refine g_goto k (tgt := 24) dX10_laysRooms_72 (by decide) ?_
                    exact ih24 (u + 1) _ (by omega) (Or.inr ⟨u, rfl, by omega, q36.f (by omega), lt_s2 (fun v hv g => Or.inr (by rcases a4 v hv g with e | e; (rw [e]; exact Or.inl (by omega)); (unfold lx at e ⊢; omega))) (fun _ => Or.inl rfl)⟩) (by omega)
        exact K24 _ 0 _ (Nat.zero_le _) (Or.inl ⟨rfl, fun v hv => absurd hv (Nat.not_lt_zero v)⟩) (Nat.lt_succ_self _)
  exact K10 _ 0 0 _ h1 hm_ hn_ hu_ hg_ hro_ fr_ (Nat.zero_le _) (⟨by decide, fun u hu => ⟨fun q => by unfold bitN at q; rw [Nat.zero_div] at q; omega, fun ⟨j, g, _⟩ => absurd g (Nat.not_lt_zero j)⟩⟩) (fun j hj => absurd hj (Nat.not_lt_zero j)) (Nat.lt_succ_self _)

set_option maxHeartbeats 600000 in
set_option maxRecDepth 100000 in
theorem c_X10_room {G : Gx} {h : Hp} {nx m : Nat} {it : Nat} {φ : Fs} {ps : List (Nat × Fs)} {im : Nat → Option (Nat × Fs)} {V : RV} {n : Nat} {T : Nat → Int} {ft : Nat} (hM : MS G h m it φ ps im V n T ft) (hS : Sm it φ) {L : Nat} (hL : isL φ it L) {p : Int} (rp : -2147483648 ≤ p ∧ p ≤ 2147483647) {Q : Nat → Nat} (hQ : (p = -1 ∨ hasI it p) → Srt (bgn φ it L) Q it) : Con G yX10_room cX10_room 3 (some .int) 7 0 0 [.ref m, vi p] h nx (PI fun z h' => ((¬ (p = -1 ∨ hasI it p) → z = -1) ∧ ((p = -1 ∨ hasI it p) → (p = -1 → z = (rmN (bgn φ it L) L Q it : Nat)) ∧ ∀ j, j < it → (Q j : Int) = p → z = (rmA (bgn φ it L) L Q j : Nat))) ∧ MT G h' m 0 it φ ps im V n T ft ∧ ∀ q : Nat, (q < m ∨ m + 17 < q) → h' q = h q) := by
  obtain ⟨th, s, ⟨hm, cq1, cq2, cq3, cq4, cq5, cq6, cq7, cq8, cq9, cq10, cq11, cq12, cq13, cq14, cq15, cq16, cq17⟩, hsc, hth⟩ := hM
  obtain ⟨z1, z6, z9, z14, z17, z15, z16⟩ := id hsc
  obtain ⟨N, hn, hR⟩ := id cq2
  obtain ⟨S, hu⟩ := id cq11
  obtain ⟨Bg, hg⟩ := id cq15
  obtain ⟨h8, h28, hsm⟩ := id hS
  obtain ⟨Ro, hro⟩ := id cq16
  refine Con.of v_X10_room.2.2.2.2.2.1 (Nat.le_of_ble_eq_true rfl) (lv := [(0, .ref m), (1, vi p)]) rfl (fun X k => ?_)
  generalize hQQ : QM G X nx 0 0 _ = QQ
  have fr0 : ∀ q : Nat, (q ≠ m ∧ q ≠ m + 11 ∧ q ≠ m + 15 ∧ q ≠ m + 16) → h q = h q := fun _ _ => rfl
  refine g_aload_n k rfl dX10_room_0 ?_
  refine g_iconst k dX10_room_1 ?_
  refine g_put k 10 0 (C := RX10) (T := TX10) (N := 38) fl_X10_1 rfl wi_X10 tyX10 tyX10_ok nmX10 (by decide) rfl rfl rfl rfl hm (Nat.le_of_ble_eq_true rfl) (fs2 := mol m (fu s 0 0)) rfl rfl dX10_room_2 (fun h2 eh2 => ?_)
  have hm_ : h2 m = some (mo m (fu s 0 0)) := (congrFun eh2 _).trans hup_s
  have hn_ : h2 (m + 2) = some (ai G 86 N) := (congrFun eh2 _).trans ((hup_n (by omega)).trans hn)
  have hu_ : h2 (m + 11) = some (ai G 64 S) := (congrFun eh2 _).trans ((hup_n (by omega)).trans hu)
  have hg_ : h2 (m + 15) = some (ai G 8 Bg) := (congrFun eh2 _).trans ((hup_n (by omega)).trans hg)
  have hro_ : h2 (m + 16) = some (ai G 8 Ro) := (congrFun eh2 _).trans ((hup_n (by omega)).trans hro)
  have fr_ : ∀ q : Nat, (q ≠ m ∧ q ≠ m + 11 ∧ q ≠ m + 15 ∧ q ≠ m + 16) → h2 q = h q := fun q hq => (congrFun eh2 q).trans ((hup_n (by omega)).trans (fr0 q hq))
  refine g_iload_n k rfl dX10_room_5 ?_
  refine g_iconst k dX10_room_6 ?_
  refine g_icmp_eq k (tgt := 20) (by omega) (by omega) dX10_room_7 (by decide) (fun c7 => ?_) (fun c7 => ?_)
  · skip
    have hok : p = -1 ∨ hasI it p := Or.inl (by omega)
    have hs := hQ hok
    refine g_aload_n k rfl dX10_room_20 ?_
    refine g_cVi k 10 (As := []) v_X10_laysRooms rfl rfl hm_ ml_X10_313 (c_X10_laysRooms hm_ hn_ hR hS hu_ hg_ hL hs hro_) (by omega) (by omega) rfl (Nat.le_of_ble_eq_true rfl) rfl dX10_room_21 (fun r21 h21 p21 => ?_)
    obtain ⟨p21e, ⟨nm9, ⟨S9, nu9⟩, ⟨B9, ng9⟩, R9, nr9, hr9⟩, nfr9⟩ := p21
    subst p21e
    have hm__1 : h21 m = some (mo m (fu (fu s 0 0) 19 (L : Int))) := nm9
    have hn__1 : h21 (m + 2) = some (ai G 86 N) := (nfr9 _ (by omega)).trans hn_
    have hu__1 : h21 (m + 11) = some (ai G 64 S9) := nu9
    have hg__1 : h21 (m + 15) = some (ai G 8 B9) := ng9
    have hro__1 : h21 (m + 16) = some (ai G 8 R9) := nr9
    have fr__1 : ∀ q : Nat, (q ≠ m ∧ q ≠ m + 11 ∧ q ≠ m + 15 ∧ q ≠ m + 16) → h21 q = h q := fun q hq => (nfr9 q (by omega)).trans (fr_ q hq)
    refine g_istore_n k (lv2 := [(0, .ref m), (1, vi p), (2, vi (rmN (bgn φ it L) L Q it : Int))]) (by decide) rfl rfl dX10_room_24 ?_
    refine g_iload_n k rfl dX10_room_25 ?_
    refine g_iconst k dX10_room_26 ?_
    refine g_icmp_ne k (tgt := 34) (by omega) (by omega) dX10_room_27 (by decide) (fun c27 => ?_) (fun c27 => ?_)
    · skip
      have hip : 0 ≤ p ∧ p < it := hok.resolve_left (by omega)
      refine g_aload_n k rfl dX10_room_34 ?_
      refine g_get k 10 35 (v := .ref (m + 16)) (C := RX10) (T := TX10) (N := 38) fl_X10_121 rfl wi_X10 (by decide) rfl hm__1 rfl dX10_room_35 ?_
      refine g_iload_n k rfl dX10_room_38 ?_
      refine g_iald k (p.toNat) hro__1 (by omega) (by omega) (by decide) dX10_room_39 ?_
      rw [← hQQ]
      refine g_ireti k rfl dX10_room_40 ?_
      first
      | exact ⟨⟨fun q => absurd hok q, fun _ => ⟨fun _ => rfl, fun j hj e => by omega⟩⟩, ⟨_, ⟨hm__1, ((fr__1 (m + 1) (by omega)).trans cq1), ⟨N, hn__1, hR⟩, (by rw [fr__1 (m + 3) (by omega)]; exact cq3), (by rw [fr__1 (m + 4) (by omega)]; exact cq4), (by rw [fr__1 (m + 5) (by omega)]; exact cq5), (by rw [fr__1 (m + 6) (by omega)]; exact cq6), (by rw [fr__1 (m + 7) (by omega)]; exact cq7), (by rw [fr__1 (m + 8) (by omega)]; exact cq8), (by rw [fr__1 (m + 9) (by omega)]; exact cq9), (by rw [fr__1 (m + 10) (by omega)]; exact cq10), ⟨_, hu__1⟩, (by rw [fr__1 (m + 12) (by omega)]; exact cq12), (by rw [fr__1 (m + 13) (by omega)]; exact cq13), (by rw [fr__1 (m + 14) (by omega)]; exact cq14), ⟨_, hg__1⟩, ⟨_, hro__1⟩, (by rw [fr__1 (m + 17) (by omega)]; exact cq17)⟩, hsc, rfl⟩, (fun q hq => fr__1 q (by omega))⟩
      | exact ⟨⟨fun q => absurd hok q, fun _ => ⟨fun e => by omega, fun j hj e => by rw [show p.toNat = Q j by omega]; exact hr9 j hj⟩⟩, ⟨_, ⟨hm__1, ((fr__1 (m + 1) (by omega)).trans cq1), ⟨N, hn__1, hR⟩, (by rw [fr__1 (m + 3) (by omega)]; exact cq3), (by rw [fr__1 (m + 4) (by omega)]; exact cq4), (by rw [fr__1 (m + 5) (by omega)]; exact cq5), (by rw [fr__1 (m + 6) (by omega)]; exact cq6), (by rw [fr__1 (m + 7) (by omega)]; exact cq7), (by rw [fr__1 (m + 8) (by omega)]; exact cq8), (by rw [fr__1 (m + 9) (by omega)]; exact cq9), (by rw [fr__1 (m + 10) (by omega)]; exact cq10), ⟨_, hu__1⟩, (by rw [fr__1 (m + 12) (by omega)]; exact cq12), (by rw [fr__1 (m + 13) (by omega)]; exact cq13), (by rw [fr__1 (m + 14) (by omega)]; exact cq14), ⟨_, hg__1⟩, ⟨_, hro__1⟩, (by rw [fr__1 (m + 17) (by omega)]; exact cq17)⟩, hsc, rfl⟩, (fun q hq => fr__1 q (by omega))⟩
    · skip
      refine g_iload_n k rfl dX10_room_30 ?_
      refine g_goto k (tgt := 40) dX10_room_31 (by decide) ?_
      rw [← hQQ]
      refine g_ireti k rfl dX10_room_40 ?_
      first
      | exact ⟨⟨fun q => absurd hok q, fun _ => ⟨fun _ => rfl, fun j hj e => by omega⟩⟩, ⟨_, ⟨hm__1, ((fr__1 (m + 1) (by omega)).trans cq1), ⟨N, hn__1, hR⟩, (by rw [fr__1 (m + 3) (by omega)]; exact cq3), (by rw [fr__1 (m + 4) (by omega)]; exact cq4), (by rw [fr__1 (m + 5) (by omega)]; exact cq5), (by rw [fr__1 (m + 6) (by omega)]; exact cq6), (by rw [fr__1 (m + 7) (by omega)]; exact cq7), (by rw [fr__1 (m + 8) (by omega)]; exact cq8), (by rw [fr__1 (m + 9) (by omega)]; exact cq9), (by rw [fr__1 (m + 10) (by omega)]; exact cq10), ⟨_, hu__1⟩, (by rw [fr__1 (m + 12) (by omega)]; exact cq12), (by rw [fr__1 (m + 13) (by omega)]; exact cq13), (by rw [fr__1 (m + 14) (by omega)]; exact cq14), ⟨_, hg__1⟩, ⟨_, hro__1⟩, (by rw [fr__1 (m + 17) (by omega)]; exact cq17)⟩, hsc, rfl⟩, (fun q hq => fr__1 q (by omega))⟩
      | exact ⟨⟨fun q => absurd hok q, fun _ => ⟨fun e => by omega, fun j hj e => by rw [show p.toNat = Q j by omega]; exact hr9 j hj⟩⟩, ⟨_, ⟨hm__1, ((fr__1 (m + 1) (by omega)).trans cq1), ⟨N, hn__1, hR⟩, (by rw [fr__1 (m + 3) (by omega)]; exact cq3), (by rw [fr__1 (m + 4) (by omega)]; exact cq4), (by rw [fr__1 (m + 5) (by omega)]; exact cq5), (by rw [fr__1 (m + 6) (by omega)]; exact cq6), (by rw [fr__1 (m + 7) (by omega)]; exact cq7), (by rw [fr__1 (m + 8) (by omega)]; exact cq8), (by rw [fr__1 (m + 9) (by omega)]; exact cq9), (by rw [fr__1 (m + 10) (by omega)]; exact cq10), ⟨_, hu__1⟩, (by rw [fr__1 (m + 12) (by omega)]; exact cq12), (by rw [fr__1 (m + 13) (by omega)]; exact cq13), (by rw [fr__1 (m + 14) (by omega)]; exact cq14), ⟨_, hg__1⟩, ⟨_, hro__1⟩, (by rw [fr__1 (m + 17) (by omega)]; exact cq17)⟩, hsc, rfl⟩, (fun q hq => fr__1 q (by omega))⟩
  · skip
    refine g_aload_n k rfl dX10_room_10 ?_
    refine g_iload_n k rfl dX10_room_11 ?_
    refine g_cVi k 10 (As := [vi p]) v_X10_isItem rfl rfl hm_ ml_X10_231 (c_X10_isItem hm_ hn_ hR hS rp) (by omega) (by omega) rfl (Nat.le_of_ble_eq_true rfl) rfl dX10_room_12 (fun r12 h12 p12 => ?_)
    obtain ⟨eh12, p12⟩ := p12
    have eh12 := eh12.symm; subst eh12
    have q12 := p12
    have q12r := q12.r
    refine g_if_ne k (tgt := 20) (by omega) dX10_room_15 (by decide) (fun c15 => ?_) (fun c15 => ?_)
    · skip
      have hok : p = -1 ∨ hasI it p := Or.inr (q12.t (by omega))
      have hs := hQ hok
      refine g_aload_n k rfl dX10_room_20 ?_
      refine g_cVi k 10 (As := []) v_X10_laysRooms rfl rfl hm_ ml_X10_313 (c_X10_laysRooms hm_ hn_ hR hS hu_ hg_ hL hs hro_) (by omega) (by omega) rfl (Nat.le_of_ble_eq_true rfl) rfl dX10_room_21 (fun r21_1 h21_1 p21_1 => ?_)
      obtain ⟨p21_1e, ⟨nm9, ⟨S9, nu9⟩, ⟨B9, ng9⟩, R9, nr9, hr9⟩, nfr9⟩ := p21_1
      subst p21_1e
      have hm__2 : h21_1 m = some (mo m (fu (fu s 0 0) 19 (L : Int))) := nm9
      have hn__2 : h21_1 (m + 2) = some (ai G 86 N) := (nfr9 _ (by omega)).trans hn_
      have hu__2 : h21_1 (m + 11) = some (ai G 64 S9) := nu9
      have hg__2 : h21_1 (m + 15) = some (ai G 8 B9) := ng9
      have hro__2 : h21_1 (m + 16) = some (ai G 8 R9) := nr9
      have fr__2 : ∀ q : Nat, (q ≠ m ∧ q ≠ m + 11 ∧ q ≠ m + 15 ∧ q ≠ m + 16) → h21_1 q = h q := fun q hq => (nfr9 q (by omega)).trans (fr_ q hq)
      refine g_istore_n k (lv2 := [(0, .ref m), (1, vi p), (2, vi (rmN (bgn φ it L) L Q it : Int))]) (by decide) rfl rfl dX10_room_24 ?_
      refine g_iload_n k rfl dX10_room_25 ?_
      refine g_iconst k dX10_room_26 ?_
      refine g_icmp_ne k (tgt := 34) (by omega) (by omega) dX10_room_27 (by decide) (fun c27_1 => ?_) (fun c27_1 => ?_)
      · skip
        have hip : 0 ≤ p ∧ p < it := hok.resolve_left (by omega)
        refine g_aload_n k rfl dX10_room_34 ?_
        refine g_get k 10 35 (v := .ref (m + 16)) (C := RX10) (T := TX10) (N := 38) fl_X10_121 rfl wi_X10 (by decide) rfl hm__2 rfl dX10_room_35 ?_
        refine g_iload_n k rfl dX10_room_38 ?_
        refine g_iald k (p.toNat) hro__2 (by omega) (by omega) (by decide) dX10_room_39 ?_
        rw [← hQQ]
        refine g_ireti k rfl dX10_room_40 ?_
        first
        | exact ⟨⟨fun q => absurd hok q, fun _ => ⟨fun _ => rfl, fun j hj e => by omega⟩⟩, ⟨_, ⟨hm__2, ((fr__2 (m + 1) (by omega)).trans cq1), ⟨N, hn__2, hR⟩, (by rw [fr__2 (m + 3) (by omega)]; exact cq3), (by rw [fr__2 (m + 4) (by omega)]; exact cq4), (by rw [fr__2 (m + 5) (by omega)]; exact cq5), (by rw [fr__2 (m + 6) (by omega)]; exact cq6), (by rw [fr__2 (m + 7) (by omega)]; exact cq7), (by rw [fr__2 (m + 8) (by omega)]; exact cq8), (by rw [fr__2 (m + 9) (by omega)]; exact cq9), (by rw [fr__2 (m + 10) (by omega)]; exact cq10), ⟨_, hu__2⟩, (by rw [fr__2 (m + 12) (by omega)]; exact cq12), (by rw [fr__2 (m + 13) (by omega)]; exact cq13), (by rw [fr__2 (m + 14) (by omega)]; exact cq14), ⟨_, hg__2⟩, ⟨_, hro__2⟩, (by rw [fr__2 (m + 17) (by omega)]; exact cq17)⟩, hsc, rfl⟩, (fun q hq => fr__2 q (by omega))⟩
        | exact ⟨⟨fun q => absurd hok q, fun _ => ⟨fun e => by omega, fun j hj e => by rw [show p.toNat = Q j by omega]; exact hr9 j hj⟩⟩, ⟨_, ⟨hm__2, ((fr__2 (m + 1) (by omega)).trans cq1), ⟨N, hn__2, hR⟩, (by rw [fr__2 (m + 3) (by omega)]; exact cq3), (by rw [fr__2 (m + 4) (by omega)]; exact cq4), (by rw [fr__2 (m + 5) (by omega)]; exact cq5), (by rw [fr__2 (m + 6) (by omega)]; exact cq6), (by rw [fr__2 (m + 7) (by omega)]; exact cq7), (by rw [fr__2 (m + 8) (by omega)]; exact cq8), (by rw [fr__2 (m + 9) (by omega)]; exact cq9), (by rw [fr__2 (m + 10) (by omega)]; exact cq10), ⟨_, hu__2⟩, (by rw [fr__2 (m + 12) (by omega)]; exact cq12), (by rw [fr__2 (m + 13) (by omega)]; exact cq13), (by rw [fr__2 (m + 14) (by omega)]; exact cq14), ⟨_, hg__2⟩, ⟨_, hro__2⟩, (by rw [fr__2 (m + 17) (by omega)]; exact cq17)⟩, hsc, rfl⟩, (fun q hq => fr__2 q (by omega))⟩
      · skip
        refine g_iload_n k rfl dX10_room_30 ?_
        refine g_goto k (tgt := 40) dX10_room_31 (by decide) ?_
        rw [← hQQ]
        refine g_ireti k rfl dX10_room_40 ?_
        first
        | exact ⟨⟨fun q => absurd hok q, fun _ => ⟨fun _ => rfl, fun j hj e => by omega⟩⟩, ⟨_, ⟨hm__2, ((fr__2 (m + 1) (by omega)).trans cq1), ⟨N, hn__2, hR⟩, (by rw [fr__2 (m + 3) (by omega)]; exact cq3), (by rw [fr__2 (m + 4) (by omega)]; exact cq4), (by rw [fr__2 (m + 5) (by omega)]; exact cq5), (by rw [fr__2 (m + 6) (by omega)]; exact cq6), (by rw [fr__2 (m + 7) (by omega)]; exact cq7), (by rw [fr__2 (m + 8) (by omega)]; exact cq8), (by rw [fr__2 (m + 9) (by omega)]; exact cq9), (by rw [fr__2 (m + 10) (by omega)]; exact cq10), ⟨_, hu__2⟩, (by rw [fr__2 (m + 12) (by omega)]; exact cq12), (by rw [fr__2 (m + 13) (by omega)]; exact cq13), (by rw [fr__2 (m + 14) (by omega)]; exact cq14), ⟨_, hg__2⟩, ⟨_, hro__2⟩, (by rw [fr__2 (m + 17) (by omega)]; exact cq17)⟩, hsc, rfl⟩, (fun q hq => fr__2 q (by omega))⟩
        | exact ⟨⟨fun q => absurd hok q, fun _ => ⟨fun e => by omega, fun j hj e => by rw [show p.toNat = Q j by omega]; exact hr9 j hj⟩⟩, ⟨_, ⟨hm__2, ((fr__2 (m + 1) (by omega)).trans cq1), ⟨N, hn__2, hR⟩, (by rw [fr__2 (m + 3) (by omega)]; exact cq3), (by rw [fr__2 (m + 4) (by omega)]; exact cq4), (by rw [fr__2 (m + 5) (by omega)]; exact cq5), (by rw [fr__2 (m + 6) (by omega)]; exact cq6), (by rw [fr__2 (m + 7) (by omega)]; exact cq7), (by rw [fr__2 (m + 8) (by omega)]; exact cq8), (by rw [fr__2 (m + 9) (by omega)]; exact cq9), (by rw [fr__2 (m + 10) (by omega)]; exact cq10), ⟨_, hu__2⟩, (by rw [fr__2 (m + 12) (by omega)]; exact cq12), (by rw [fr__2 (m + 13) (by omega)]; exact cq13), (by rw [fr__2 (m + 14) (by omega)]; exact cq14), ⟨_, hg__2⟩, ⟨_, hro__2⟩, (by rw [fr__2 (m + 17) (by omega)]; exact cq17)⟩, hsc, rfl⟩, (fun q hq => fr__2 q (by omega))⟩
    · skip
      refine g_iconst k dX10_room_18 ?_
      rw [← hQQ]
      refine g_ireti k rfl dX10_room_19 ?_
      exact ⟨⟨fun _ => rfl, fun q => absurd (q.resolve_left (by omega)) (q12.f (by omega))⟩, ⟨_, ⟨hm_, ((fr_ (m + 1) (by omega)).trans cq1), ⟨N, hn_, hR⟩, (by rw [fr_ (m + 3) (by omega)]; exact cq3), (by rw [fr_ (m + 4) (by omega)]; exact cq4), (by rw [fr_ (m + 5) (by omega)]; exact cq5), (by rw [fr_ (m + 6) (by omega)]; exact cq6), (by rw [fr_ (m + 7) (by omega)]; exact cq7), (by rw [fr_ (m + 8) (by omega)]; exact cq8), (by rw [fr_ (m + 9) (by omega)]; exact cq9), (by rw [fr_ (m + 10) (by omega)]; exact cq10), ⟨_, hu_⟩, (by rw [fr_ (m + 12) (by omega)]; exact cq12), (by rw [fr_ (m + 13) (by omega)]; exact cq13), (by rw [fr_ (m + 14) (by omega)]; exact cq14), ⟨_, hg_⟩, ⟨_, hro_⟩, (by rw [fr_ (m + 17) (by omega)]; exact cq17)⟩, hsc, rfl⟩, (fun q hq => fr_ q (by omega))⟩

