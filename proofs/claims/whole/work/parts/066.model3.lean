/-! the reference: rings -/
theorem mxK_b {φ : Fs} {w : Nat} {b : Nat → Int} {p : Nat} (h : ∀ q, b q = -1000000000 ∨ (-10 ≤ b q ∧ b q ≤ 10)) (c : Nat) : mxK φ w b p c = -1000000000 ∨ (-11 ≤ mxK φ w b p c ∧ mxK φ w b p c ≤ 11) := by
  rcases @mxK_by φ w b p c with q | ⟨k, q1, q2, q3, q4, q5⟩
  · exact Or.inl q
  · have := (h (tgt φ k p).toNat).resolve_left q4
    have := wt_b (kd φ k)
    exact Or.inr (by omega)
theorem mx_no1 {φ : Fs} {b : Nat → Int} {p c : Nat} (h : tgt φ c p = -1) : mxK φ 0 b p (c + 1) = mxK φ 0 b p c := by rw [mxK, if_neg (fun q => q.2.1 h)]
theorem mx_no2 {φ : Fs} {b : Nat → Int} {p c : Nat} (h : b (tgt φ c p).toNat = -1000000000) : mxK φ 0 b p (c + 1) = mxK φ 0 b p c := by rw [mxK, if_neg (fun q => q.2.2.1 h)]
theorem mx_no3 {φ : Fs} {b : Nat → Int} {p c : Nat} (h : b (tgt φ c p).toNat + wt (kd φ c) ≤ mxK φ 0 b p c) : mxK φ 0 b p (c + 1) = mxK φ 0 b p c := by rw [mxK, if_neg (fun q => by have := q.2.2.2; omega)]
theorem mx_yes {φ : Fs} {b : Nat → Int} {p c : Nat} (h1 : ¬ tgt φ c p = -1) (h2 : ¬ b (tgt φ c p).toNat = -1000000000) (h : mxK φ 0 b p c < b (tgt φ c p).toNat + wt (kd φ c)) : mxK φ 0 b p (c + 1) = b (tgt φ c p).toNat + wt (kd φ c) := by rw [mxK, if_pos ⟨bit0, h1, h2, h⟩]
theorem skV_of {φ : Fs} {w it k x y n a b : Nat} {V : RV} (e : skN φ w it k x y = (n, a, b)) (hn : 0 < n) : skV φ w it k x y V = ((n : Int) + 1, (trS φ w (fwL φ w a n) k b n n).2.2, (a : Int), (b : Int), fun i => trK φ w (fwL φ w a n) k b n i) := by unfold skV; rw [e, if_pos hn]
def RgV (s R : Nat → Int) (V : RV) : Prop := s 10 + 1 = V.1 ∧ s 13 = V.2.1 ∧ s 11 = V.2.2.1 ∧ s 12 = V.2.2.2.1 ∧ ∀ i : Nat, (i : Int) + 1 < V.1 → R i = V.2.2.2.2 i
set_option maxHeartbeats 600000 in
set_option maxRecDepth 100000 in
theorem c_X10_laysBest {G : Gx} {h : Hp} {nx : Nat} {m : Nat} {s : Nat → Int} (hm : h m = some (mo m s)) {r : Nat} {N : Nat → Int} {it : Nat} {φ : Fs} (hn : h r = some (ai G 86 N)) (hR : Rw N it φ) (hS : Sm it φ) (hrm : r ≠ m + 12) {Bt : Nat → Int} (hb : h (m + 12) = some (ai G 72 Bt)) {x : Nat} (hx : x < 8) : Con G yX10_laysBest cX10_laysBest 8 none 2 0 0 [.ref m, .ref r, vi (x : Int)] h nx (PV fun h' => (∃ B2 : Nat → Int, h' (m + 12) = some (ai G 72 B2) ∧ BtP φ x B2) ∧ ∀ q : Nat, q ≠ m + 12 → h' q = h q) := by
  obtain ⟨h8, h28, hsm⟩ := id hS
  refine Con.of v_X10_laysBest.2.2.2.2.2.1 (Nat.le_of_ble_eq_true rfl) (lv := [(0, .ref m), (1, .ref r), (2, vi (x : Int))]) rfl (fun X k => ?_)
  generalize hQQ : QM G X nx 0 0 _ = QQ
  have fr0 : ∀ q : Nat, q ≠ m + 12 → h q = h q := fun _ _ => rfl
  refine g_iconst k dX10_laysBest_0 ?_
  refine g_istore_n k (lv2 := [(0, .ref m), (1, .ref r), (2, vi (x : Int)), (3, vi 0)]) (by decide) rfl rfl dX10_laysBest_1 ?_
  have K2 : ∀ (nz : Nat) (n : Nat) (B1 : Nat → Int) (h2 : Hp) (hm_ : h2 m = some (mo m s)) (hn_ : h2 r = some (ai G 86 N)) (hb_ : h2 (m + 12) = some (ai G 72 B1)) (fr_ : ∀ q : Nat, q ≠ m + 12 → h2 q = h q) (hn9 : n ≤ 9) (hd : ∀ u p, u < n → p < 8 → B1 (u * 8 + p) = cs (bst φ 0 x u p)) (hmz : 9 - n < nz), Go G X 8 QQ 0 0 nx 2 [(0, .ref m), (1, .ref r), (2, vi (x : Int)), (3, vi (n : Int))] [] h2 := by
    intro nz
    induction nz with
    | zero => intro n B1 h2 hm_ hn_ hb_ fr_ hn9 hd hmz; exact absurd hmz (Nat.not_lt_zero _)
    | succ nz ih2 =>
      intro n B1 h2 hm_ hn_ hb_ fr_ hn9 hd hmz
      refine g_iload_n k rfl dX10_laysBest_2 ?_
      refine g_bipush k rfl dX10_laysBest_3 ?_
      refine g_icmp_ge k (tgt := 176) (by omega) (by omega) dX10_laysBest_5 (by decide) (fun c5 => ?_) (fun c5 => ?_)
      · skip
        rw [← hQQ]
        refine g_retv k rfl dX10_laysBest_176 ?_
        exact ⟨⟨_, hb_, fun u p hu hp => hd u p (by omega) hp⟩, fr_⟩
      · skip
        refine g_iconst k dX10_laysBest_8 ?_
        refine g_istore k (lv2 := [(0, .ref m), (1, .ref r), (2, vi (x : Int)), (3, vi (n : Int)), (4, vi 0)]) (by decide) rfl rfl dX10_laysBest_9 ?_
        have K11 : ∀ (nz_1 : Nat) (p1 : Nat) (B2 : Nat → Int) (h11 : Hp) (hm__1 : h11 m = some (mo m s)) (hn__1 : h11 r = some (ai G 86 N)) (hb__1 : h11 (m + 12) = some (ai G 72 B2)) (fr__1 : ∀ q : Nat, q ≠ m + 12 → h11 q = h q) (hp1 : p1 ≤ 8) (hd2 : ∀ u p, (u < n ∨ (u = n ∧ p < p1)) → p < 8 → B2 (u * 8 + p) = cs (bst φ 0 x u p)) (hmz_1 : 8 - p1 < nz_1), Go G X 8 QQ 0 0 nx 11 [(0, .ref m), (1, .ref r), (2, vi (x : Int)), (3, vi (n : Int)), (4, vi (p1 : Int))] [] h11 := by
          intro nz_1
          induction nz_1 with
          | zero => intro p1 B2 h11 hm__1 hn__1 hb__1 fr__1 hp1 hd2 hmz_1; exact absurd hmz_1 (Nat.not_lt_zero _)
          | succ nz_1 ih11 =>
            intro p1 B2 h11 hm__1 hn__1 hb__1 fr__1 hp1 hd2 hmz_1
            refine g_iload k rfl dX10_laysBest_11 ?_
            refine g_bipush k rfl dX10_laysBest_13 ?_
            refine g_icmp_ge k (tgt := 170) (by omega) (by omega) dX10_laysBest_15 (by decide) (fun c15 => ?_) (fun c15 => ?_)
            · skip
              refine g_iinc k (lv2 := [(0, .ref m), (1, .ref r), (2, vi (x : Int)), (3, vi ((n : Int) + 1)), (4, vi (p1 : Int))]) rfl (by decide) rfl rfl dX10_laysBest_170 ?_
              refine g_goto k (tgt := 2) dX10_laysBest_173 (by decide) ?_
              refine g_less (lv2 := [(0, .ref m), (1, .ref r), (2, vi (x : Int)), (3, vi ((n : Int) + 1))]) ⟨rfl, rfl, rfl, rfl, trivial⟩ ?_
              exact ih2 (n + 1) _ h11 hm__1 hn__1 hb__1 fr__1 (by omega) (fun u p g hp => hd2 u p (by omega) hp) (by omega)
            · skip
              refine g_aload_n k rfl dX10_laysBest_18 ?_
              refine g_get k 10 21 (C := RX10) (T := TX10) (N := 38) fl_X10_106 rfl wi_X10 (by decide) rfl hm__1 rfl dX10_laysBest_19 ?_
              refine g_bipush k rfl dX10_laysBest_22 ?_
              refine g_iload_n k rfl dX10_laysBest_24 ?_
              refine g_imul k dX10_laysBest_25 ?_
              refine g_iload k rfl dX10_laysBest_26 ?_
              refine g_iadd k dX10_laysBest_28 ?_
              have K45 : ∀ (z : Int) (hz : z = (if n = 0 ∧ p1 = x then 0 else -100000)), Go G X 8 QQ 0 0 nx 45 [(0, .ref m), (1, .ref r), (2, vi (x : Int)), (3, vi (n : Int)), (4, vi (p1 : Int))] [vi z, vi (8 * (n : Int) + (p1 : Int)), .ref (m + 12)] h11 := by
                intro z hz
                refine g_iast k (n * 8 + p1) hb__1 (by omega) (by omega) (by decide) dX10_laysBest_45 (fun h45 eh45 => ?_)
                have hm__2 : h45 m = some (mo m s) := (congrFun eh45 _).trans ((hup_n (by omega)).trans hm__1)
                have hn__2 : h45 r = some (ai G 86 N) := (congrFun eh45 _).trans ((hup_n (by omega)).trans hn__1)
                have hb__2 : h45 (m + 12) = some (ai G 72 (fu B2 (n * 8 + p1) z)) := (congrFun eh45 _).trans hup_s
                have fr__2 : ∀ q : Nat, q ≠ m + 12 → h45 q = h q := fun q hq => (congrFun eh45 q).trans ((hup_n (by omega)).trans (fr__1 q hq))
                refine g_iconst k dX10_laysBest_46 ?_
                refine g_istore k (lv2 := [(0, .ref m), (1, .ref r), (2, vi (x : Int)), (3, vi (n : Int)), (4, vi (p1 : Int)), (5, vi 0)]) (by decide) rfl rfl dX10_laysBest_47 ?_
                have K49 : ∀ (nz_3 : Nat) (c : Nat) (B3 : Nat → Int) (h49 : Hp) (hm__3 : h49 m = some (mo m s)) (hn__3 : h49 r = some (ai G 86 N)) (hb__3 : h49 (m + 12) = some (ai G 72 B3)) (fr__3 : ∀ q : Nat, q ≠ m + 12 → h49 q = h q) (hc : c ≤ φ.length) (hd3 : ∀ u p, (u < n ∨ (u = n ∧ p < p1)) → p < 8 → B3 (u * 8 + p) = cs (bst φ 0 x u p)) (hcur : B3 (n * 8 + p1) = (if n = 0 then cs (bst φ 0 x 0 p1) else cs (mxK φ 0 (bst φ 0 x (n - 1)) p1 c))) (hmz_3 : φ.length - c < nz_3), Go G X 8 QQ 0 0 nx 49 [(0, .ref m), (1, .ref r), (2, vi (x : Int)), (3, vi (n : Int)), (4, vi (p1 : Int)), (5, vi (c : Int))] [] h49 := by
                  intro nz_3
                  induction nz_3 with
                  | zero => intro c B3 h49 hm__3 hn__3 hb__3 fr__3 hc hd3 hcur hmz_3; exact absurd hmz_3 (Nat.not_lt_zero _)
                  | succ nz_3 ih49 =>
                    intro c B3 h49 hm__3 hn__3 hb__3 fr__3 hc hd3 hcur hmz_3
                    refine g_iload_n k rfl dX10_laysBest_49 ?_
                    refine g_if_le k (tgt := 164) (by omega) dX10_laysBest_50 (by decide) (fun c50 => ?_) (fun c50 => ?_)
                    · skip
                      refine g_iinc k (lv2 := [(0, .ref m), (1, .ref r), (2, vi (x : Int)), (3, vi (n : Int)), (4, vi ((p1 : Int) + 1)), (5, vi (c : Int))]) rfl (by decide) rfl rfl dX10_laysBest_164 ?_
                      refine g_goto k (tgt := 11) dX10_laysBest_167 (by decide) ?_
                      refine g_less (lv2 := [(0, .ref m), (1, .ref r), (2, vi (x : Int)), (3, vi (n : Int)), (4, vi ((p1 : Int) + 1))]) ⟨rfl, rfl, rfl, rfl, rfl, trivial⟩ ?_
                      exact ih11 (p1 + 1) _ h49 hm__3 hn__3 hb__3 fr__3 (by omega) (fun u p g hp => by by_cases e : u = n ∧ p = p1; (rw [e.1, e.2, hcur, if_pos (by omega)]; congr 2; omega); exact hd3 u p (by omega) hp) (by omega)
                    · skip
                      refine g_iload k rfl dX10_laysBest_53 ?_
                      refine g_aload_n k rfl dX10_laysBest_55 ?_
                      refine g_iconst k dX10_laysBest_56 ?_
                      refine g_iald k 1 hn__3 (by omega) (by omega) (by decide) dX10_laysBest_57 ?_
                      rw [show N 1 = (φ.length : Int) from hR.n]
                      refine g_icmp_ge k (tgt := 164) (by omega) (by omega) dX10_laysBest_58 (by decide) (fun c58 => ?_) (fun c58 => ?_)
                      · skip
                        refine g_iinc k (lv2 := [(0, .ref m), (1, .ref r), (2, vi (x : Int)), (3, vi (n : Int)), (4, vi ((p1 : Int) + 1)), (5, vi (c : Int))]) rfl (by decide) rfl rfl dX10_laysBest_164 ?_
                        refine g_goto k (tgt := 11) dX10_laysBest_167 (by decide) ?_
                        refine g_less (lv2 := [(0, .ref m), (1, .ref r), (2, vi (x : Int)), (3, vi (n : Int)), (4, vi ((p1 : Int) + 1))]) ⟨rfl, rfl, rfl, rfl, rfl, trivial⟩ ?_
                        exact ih11 (p1 + 1) _ h49 hm__3 hn__3 hb__3 fr__3 (by omega) (fun u p g hp => by by_cases e : u = n ∧ p = p1; (rw [e.1, e.2, hcur, if_neg (by omega), show c = φ.length by omega]; congr 1; obtain ⟨n0, rfl⟩ : ∃ n0, n = n0 + 1 := ⟨n - 1, by omega⟩; rfl); exact hd3 u p (by omega) hp) (by omega)
                      · skip
                        have hb1 := hsm c (by omega)
                        have htb := tgt_b (p := (p1 : Int)) hS (k := c) (by omega)
                        have hbs : ∀ q, bst φ 0 x (n - 1) q = -1000000000 ∨ (-10 ≤ bst φ 0 x (n - 1) q ∧ bst φ 0 x (n - 1) q ≤ 10) := fun q => by have := bst_b (w := 0) (x := x) hS (l := n - 1) (by omega) q; omega
                        have hb2 := hbs (tgt φ c (p1 : Int)).toNat
                        have hcb := cs_b (B := 20) (by omega) (show bst φ 0 x (n - 1) (tgt φ c (p1 : Int)).toNat = -1000000000 ∨ _ by omega)
                        have hmb := mxK_b (φ := φ) (w := 0) (p := p1) hbs c
                        have hcm := cs_b (B := 20) (by omega) (show mxK φ 0 (bst φ 0 x (n - 1)) p1 c = -1000000000 ∨ _ by omega)
                        have hwt := wt_b (kd φ c)
                        refine g_aload_n k rfl dX10_laysBest_61 ?_
                        refine g_iload k rfl dX10_laysBest_62 ?_
                        refine g_iload k rfl dX10_laysBest_64 ?_
                        refine g_cSi k (As := [.ref r, vi (c : Int), vi (p1 : Int)]) v_X10_leads ml_X10_187 (c_X10_leads hn__3 hR hS (k1 := c) (by omega) (p := (p1 : Int)) (by omega)) (by omega) (by omega) rfl (Nat.le_of_ble_eq_true rfl) rfl dX10_laysBest_66 (fun r66 h66 p66 => ?_)
                        obtain ⟨eh66, p66⟩ := p66
                        have eh66 := eh66.symm; subst eh66
                        subst p66
                        refine g_istore k (lv2 := [(0, .ref m), (1, .ref r), (2, vi (x : Int)), (3, vi (n : Int)), (4, vi (p1 : Int)), (5, vi (c : Int)), (6, vi (tgt φ c (p1 : Int)))]) (by decide) rfl rfl dX10_laysBest_69 ?_
                        refine g_iload k rfl dX10_laysBest_71 ?_
                        refine g_iconst k dX10_laysBest_73 ?_
                        refine g_icmp_eq k (tgt := 158) (by omega) (by omega) dX10_laysBest_74 (by decide) (fun c74 => ?_) (fun c74 => ?_)
                        · skip
                          refine g_iinc k (lv2 := [(0, .ref m), (1, .ref r), (2, vi (x : Int)), (3, vi (n : Int)), (4, vi (p1 : Int)), (5, vi ((c : Int) + 1)), (6, vi (tgt φ c (p1 : Int)))]) rfl (by decide) rfl rfl dX10_laysBest_158 ?_
                          refine g_goto k (tgt := 49) dX10_laysBest_161 (by decide) ?_
                          refine g_less (lv2 := [(0, .ref m), (1, .ref r), (2, vi (x : Int)), (3, vi (n : Int)), (4, vi (p1 : Int)), (5, vi ((c : Int) + 1))]) ⟨rfl, rfl, rfl, rfl, rfl, rfl, trivial⟩ ?_
                          exact ih49 (c + 1) _ h49 hm__3 hn__3 hb__3 fr__3 (by omega) hd3 (by rw [mx_no1 (by omega)]; exact hcur) (by omega)
                        · skip
                          refine g_aload_n k rfl dX10_laysBest_77 ?_
                          refine g_get k 10 21 (C := RX10) (T := TX10) (N := 38) fl_X10_106 rfl wi_X10 (by decide) rfl hm__3 rfl dX10_laysBest_78 ?_
                          refine g_bipush k rfl dX10_laysBest_81 ?_
                          refine g_iload_n k rfl dX10_laysBest_83 ?_
                          refine g_imul k dX10_laysBest_84 ?_
                          refine g_bipush k rfl dX10_laysBest_85 ?_
                          refine g_isub k dX10_laysBest_87 ?_
                          refine g_iload k rfl dX10_laysBest_88 ?_
                          refine g_iadd k dX10_laysBest_90 ?_
                          refine g_iald k ((n - 1) * 8 + (tgt φ c (p1 : Int)).toNat) hb__3 (by omega) (by omega) (by decide) dX10_laysBest_91 ?_
                          rw [show B3 ((n - 1) * 8 + (tgt φ c (p1 : Int)).toNat) = cs (bst φ 0 x (n - 1) (tgt φ c (p1 : Int)).toNat) from hd3 _ _ (by omega) (by omega)]
                          refine g_ldc k (z := (-100000)) cn_X10_170 rfl dX10_laysBest_92 ?_
                          refine g_icmp_ne k (tgt := 100) (by omega) (by omega) dX10_laysBest_94 (by decide) (fun c94 => ?_) (fun c94 => ?_)
                          · skip
                            refine g_aload_n k rfl dX10_laysBest_100 ?_
                            refine g_get k 10 21 (C := RX10) (T := TX10) (N := 38) fl_X10_106 rfl wi_X10 (by decide) rfl hm__3 rfl dX10_laysBest_101 ?_
                            refine g_bipush k rfl dX10_laysBest_104 ?_
                            refine g_iload_n k rfl dX10_laysBest_106 ?_
                            refine g_imul k dX10_laysBest_107 ?_
                            refine g_bipush k rfl dX10_laysBest_108 ?_
                            refine g_isub k dX10_laysBest_110 ?_
                            refine g_iload k rfl dX10_laysBest_111 ?_
                            refine g_iadd k dX10_laysBest_113 ?_
                            refine g_iald k ((n - 1) * 8 + (tgt φ c (p1 : Int)).toNat) hb__3 (by omega) (by omega) (by decide) dX10_laysBest_114 ?_
                            rw [show B3 ((n - 1) * 8 + (tgt φ c (p1 : Int)).toNat) = cs (bst φ 0 x (n - 1) (tgt φ c (p1 : Int)).toNat) from hd3 _ _ (by omega) (by omega)]
                            refine g_aload_n k rfl dX10_laysBest_115 ?_
                            refine g_iconst k dX10_laysBest_116 ?_
                            refine g_iload k rfl dX10_laysBest_117 ?_
                            refine g_iadd k dX10_laysBest_119 ?_
                            refine g_iald k (2 + c) hn__3 (by omega) (by omega) (by decide) dX10_laysBest_120 ?_
                            rw [show N (2 + c) = (kd (φ) c : Int) from hR.k (by omega)]
                            refine g_cSi k (As := [vi (kd (φ) c : Int)]) v_X10_sign ml_X10_190 (c_X10_sign (k1 := kd φ c) (by omega)) (by omega) (by omega) rfl (Nat.le_of_ble_eq_true rfl) rfl dX10_laysBest_121 (fun r121 h121 p121 => ?_)
                            obtain ⟨eh121, p121⟩ := p121
                            have eh121 := eh121.symm; subst eh121
                            subst p121
                            refine g_iadd k dX10_laysBest_124 ?_
                            refine g_istore k (lv2 := [(0, .ref m), (1, .ref r), (2, vi (x : Int)), (3, vi (n : Int)), (4, vi (p1 : Int)), (5, vi (c : Int)), (6, vi (tgt φ c (p1 : Int))), (7, vi ((cs (bst φ 0 x (n - 1) (tgt φ c (p1 : Int)).toNat)) + (wt (kd φ c))))]) (by decide) rfl rfl dX10_laysBest_125 ?_
                            refine g_iload k rfl dX10_laysBest_127 ?_
                            refine g_aload_n k rfl dX10_laysBest_129 ?_
                            refine g_get k 10 21 (C := RX10) (T := TX10) (N := 38) fl_X10_106 rfl wi_X10 (by decide) rfl hm__3 rfl dX10_laysBest_130 ?_
                            refine g_bipush k rfl dX10_laysBest_133 ?_
                            refine g_iload_n k rfl dX10_laysBest_135 ?_
                            refine g_imul k dX10_laysBest_136 ?_
                            refine g_iload k rfl dX10_laysBest_137 ?_
                            refine g_iadd k dX10_laysBest_139 ?_
                            refine g_iald k (n * 8 + p1) hb__3 (by omega) (by omega) (by decide) dX10_laysBest_140 ?_
                            rw [show B3 (n * 8 + p1) = cs (mxK φ 0 (bst φ 0 x (n - 1)) p1 c) from hcur.trans (if_neg (by omega))]
                            refine g_icmp_le k (tgt := 158) (by omega) (by omega) dX10_laysBest_141 (by decide) (fun c141 => ?_) (fun c141 => ?_)
                            · skip
                              refine g_iinc k (lv2 := [(0, .ref m), (1, .ref r), (2, vi (x : Int)), (3, vi (n : Int)), (4, vi (p1 : Int)), (5, vi ((c : Int) + 1)), (6, vi (tgt φ c (p1 : Int))), (7, vi ((cs (bst φ 0 x (n - 1) (tgt φ c (p1 : Int)).toNat)) + (wt (kd φ c))))]) rfl (by decide) rfl rfl dX10_laysBest_158 ?_
                              refine g_goto k (tgt := 49) dX10_laysBest_161 (by decide) ?_
                              refine g_less (lv2 := [(0, .ref m), (1, .ref r), (2, vi (x : Int)), (3, vi (n : Int)), (4, vi (p1 : Int)), (5, vi ((c : Int) + 1))]) ⟨rfl, rfl, rfl, rfl, rfl, rfl, trivial⟩ ?_
                              exact ih49 (c + 1) _ h49 hm__3 hn__3 hb__3 fr__3 (by omega) hd3 (by rw [mx_no3 (by omega)]; exact hcur) (by omega)
                            · skip
                              refine g_aload_n k rfl dX10_laysBest_144 ?_
                              refine g_get k 10 21 (C := RX10) (T := TX10) (N := 38) fl_X10_106 rfl wi_X10 (by decide) rfl hm__3 rfl dX10_laysBest_145 ?_
                              refine g_bipush k rfl dX10_laysBest_148 ?_
                              refine g_iload_n k rfl dX10_laysBest_150 ?_
                              refine g_imul k dX10_laysBest_151 ?_
                              refine g_iload k rfl dX10_laysBest_152 ?_
                              refine g_iadd k dX10_laysBest_154 ?_
                              refine g_iload k rfl dX10_laysBest_155 ?_
                              refine g_iast k (n * 8 + p1) hb__3 (by omega) (by omega) (by decide) dX10_laysBest_157 (fun h157 eh157 => ?_)
                              have hm__4 : h157 m = some (mo m s) := (congrFun eh157 _).trans ((hup_n (by omega)).trans hm__3)
                              have hn__4 : h157 r = some (ai G 86 N) := (congrFun eh157 _).trans ((hup_n (by omega)).trans hn__3)
                              have hb__4 : h157 (m + 12) = some (ai G 72 (fu B3 (n * 8 + p1) ((cs (bst φ 0 x (n - 1) (tgt φ c (p1 : Int)).toNat)) + (wt (kd φ c))))) := (congrFun eh157 _).trans hup_s
                              have fr__4 : ∀ q : Nat, q ≠ m + 12 → h157 q = h q := fun q hq => (congrFun eh157 q).trans ((hup_n (by omega)).trans (fr__3 q hq))
                              refine g_iinc k (lv2 := [(0, .ref m), (1, .ref r), (2, vi (x : Int)), (3, vi (n : Int)), (4, vi (p1 : Int)), (5, vi ((c : Int) + 1)), (6, vi (tgt φ c (p1 : Int))), (7, vi ((cs (bst φ 0 x (n - 1) (tgt φ c (p1 : Int)).toNat)) + (wt (kd φ c))))]) rfl (by decide) rfl rfl dX10_laysBest_158 ?_
                              refine g_goto k (tgt := 49) dX10_laysBest_161 (by decide) ?_
                              refine g_less (lv2 := [(0, .ref m), (1, .ref r), (2, vi (x : Int)), (3, vi (n : Int)), (4, vi (p1 : Int)), (5, vi ((c : Int) + 1))]) ⟨rfl, rfl, rfl, rfl, rfl, rfl, trivial⟩ ?_
                              exact ih49 (c + 1) _ h157 hm__4 hn__4 hb__4 fr__4 (by omega) (fun u p g hp => by rw [fu_n (fun g2 => by have := ix8 hp (by omega) g2; omega)]; exact hd3 u p g hp) (by rw [fu_s, if_neg (by omega), mx_yes (by omega) (by omega) (by omega), hcb.2.1 (by omega)]; unfold cs; rw [if_neg (by omega)]) (by omega)
                          · skip
                            refine g_goto k (tgt := 158) dX10_laysBest_97 (by decide) ?_
                            refine g_iinc k (lv2 := [(0, .ref m), (1, .ref r), (2, vi (x : Int)), (3, vi (n : Int)), (4, vi (p1 : Int)), (5, vi ((c : Int) + 1)), (6, vi (tgt φ c (p1 : Int)))]) rfl (by decide) rfl rfl dX10_laysBest_158 ?_
                            refine g_goto k (tgt := 49) dX10_laysBest_161 (by decide) ?_
                            refine g_less (lv2 := [(0, .ref m), (1, .ref r), (2, vi (x : Int)), (3, vi (n : Int)), (4, vi (p1 : Int)), (5, vi ((c : Int) + 1))]) ⟨rfl, rfl, rfl, rfl, rfl, rfl, trivial⟩ ?_
                            exact ih49 (c + 1) _ h49 hm__3 hn__3 hb__3 fr__3 (by omega) hd3 (by rw [mx_no2 (hcb.1.mp (by omega))]; exact hcur) (by omega)
                exact K49 _ 0 _ h45 hm__2 hn__2 hb__2 fr__2 (Nat.zero_le _) (fun u p g hp => by rw [fu_n (fun g2 => by have := ix8 hp (by omega) g2; omega)]; exact hd2 u p g hp) (by rw [fu_s, hz]; by_cases e : n = 0; (rw [if_pos e, bst]; by_cases e2 : p1 = x; (rw [if_pos ⟨e, e2⟩, if_pos e2]; rfl); (rw [if_neg (fun q => e2 q.2), if_neg e2]; rfl)); (rw [if_neg e, if_neg (fun q => e q.1)]; rfl)) (Nat.lt_succ_self _)
              refine g_iload_n k rfl dX10_laysBest_29 ?_
              refine g_if_ne k (tgt := 43) (by omega) dX10_laysBest_30 (by decide) (fun c30 => ?_) (fun c30 => ?_)
              · skip
                refine g_ldc k (z := (-100000)) cn_X10_170 rfl dX10_laysBest_43 ?_
                exact K45 _ (by rw [if_neg (by omega)])
              · skip
                refine g_iload k rfl dX10_laysBest_33 ?_
                refine g_iload_n k rfl dX10_laysBest_35 ?_
                refine g_icmp_ne k (tgt := 43) (by omega) (by omega) dX10_laysBest_36 (by decide) (fun c36 => ?_) (fun c36 => ?_)
                · skip
                  refine g_ldc k (z := (-100000)) cn_X10_170 rfl dX10_laysBest_43 ?_
                  exact K45 _ (by rw [if_neg (by omega)])
                · skip
                  refine g_iconst k dX10_laysBest_39 ?_
                  refine g_goto k (tgt := 45) dX10_laysBest_40 (by decide) ?_
                  exact K45 _ (by rw [if_pos (by omega)])
        exact K11 _ 0 _ h2 hm_ hn_ hb_ fr_ (Nat.zero_le _) (fun u p g hp => hd u p (by omega) hp) (Nat.lt_succ_self _)
  exact K2 _ 0 _ h hm hn hb fr0 (Nat.zero_le _) (fun u p g => absurd g (Nat.not_lt_zero u)) (Nat.lt_succ_self _)

set_option maxHeartbeats 600000 in
set_option maxRecDepth 100000 in
theorem c_X10_isOn {G : Gx} {h : Hp} {nx : Nat} {m : Nat} {s : Nat → Int} (hm : h m = some (mo m s)) {r : Nat} {N : Nat → Int} {it : Nat} {φ : Fs} (hn : h r = some (ai G 86 N)) (hR : Rw N it φ) (hS : Sm it φ) {Bt : Nat → Int} (hb : h (m + 12) = some (ai G 72 Bt)) {x : Nat} (hx : x < 8) (hBt : BtP φ x Bt) {k1 p1 le n : Nat} (hk1 : k1 < φ.length) (hp1 : p1 < 8) (hle : 1 ≤ le ∧ le ≤ 8 ∧ le - 1 ≤ n) {sm : Int} (hsm1 : -100 ≤ sm ∧ sm ≤ 100) : Con G yX10_isOn cX10_isOn 7 (some .boolean) 2 0 0 [.ref m, .ref r, vi (k1 : Int), vi (p1 : Int), vi (le : Int), vi sm] h nx (PI fun z h' => h' = h ∧ bz (stp φ 0 (fwL φ 0 x n) p1 sm (le - 1) k1) z) := by
  obtain ⟨h8, h28, hsm⟩ := id hS
  have hb1 := hsm k1 hk1
  have htb := tgt_b (p := (p1 : Int)) hS (k := k1) hk1
  have hbs := bst_b (w := 0) (x := x) hS (l := le - 1) (by omega) (tgt φ k1 (p1 : Int)).toNat
  have hcb := cs_b (B := 20) (by omega) (show bst φ 0 x (le - 1) (tgt φ k1 (p1 : Int)).toNat = -1000000000 ∨ _ by omega)
  have hwt := wt_b (kd φ k1)
  have hfb : ∀ q, q < 8 → fwL φ 0 x n ((le - 1) * 8 + q) = bst φ 0 x (le - 1) q := fun q hq => fwL_bst hS hx n (le - 1) (by omega) q hq
  refine Con.of v_X10_isOn.2.2.2.2.2.1 (Nat.le_of_ble_eq_true rfl) (lv := [(0, .ref m), (1, .ref r), (2, vi (k1 : Int)), (3, vi (p1 : Int)), (4, vi (le : Int)), (5, vi sm)]) rfl (fun X k => ?_)
  generalize hQQ : QM G X nx 0 0 _ = QQ
  refine g_aload_n k rfl dX10_isOn_0 ?_
  refine g_iload_n k rfl dX10_isOn_1 ?_
  refine g_iload_n k rfl dX10_isOn_2 ?_
  refine g_cSi k (As := [.ref r, vi (k1 : Int), vi (p1 : Int)]) v_X10_leads ml_X10_187 (c_X10_leads hn hR hS (k1 := k1) hk1 (p := (p1 : Int)) (by omega)) (by omega) (by omega) rfl (Nat.le_of_ble_eq_true rfl) rfl dX10_isOn_3 (fun r3 h3 p3 => ?_)
  obtain ⟨eh3, p3⟩ := p3
  have eh3 := eh3.symm; subst eh3
  subst p3
  refine g_istore k (lv2 := [(0, .ref m), (1, .ref r), (2, vi (k1 : Int)), (3, vi (p1 : Int)), (4, vi (le : Int)), (5, vi sm), (6, vi (tgt φ k1 (p1 : Int)))]) (by decide) rfl rfl dX10_isOn_6 ?_
  refine g_iload k rfl dX10_isOn_8 ?_
  refine g_iconst k dX10_isOn_10 ?_
  refine g_icmp_eq k (tgt := 70) (by omega) (by omega) dX10_isOn_11 (by decide) (fun c11 => ?_) (fun c11 => ?_)
  · skip
    refine g_iconst k dX10_isOn_70 ?_
    rw [← hQQ]
    refine g_zreti k (by omega) rfl dX10_isOn_71 ?_
    exact ⟨rfl, bz.n (fun q => q.2.1 (by omega))⟩
  · skip
    refine g_aload_n k rfl dX10_isOn_14 ?_
    refine g_get k 10 21 (C := RX10) (T := TX10) (N := 38) fl_X10_106 rfl wi_X10 (by decide) rfl hm rfl dX10_isOn_15 ?_
    refine g_bipush k rfl dX10_isOn_18 ?_
    refine g_iload k rfl dX10_isOn_20 ?_
    refine g_imul k dX10_isOn_22 ?_
    refine g_bipush k rfl dX10_isOn_23 ?_
    refine g_isub k dX10_isOn_25 ?_
    refine g_iload k rfl dX10_isOn_26 ?_
    refine g_iadd k dX10_isOn_28 ?_
    refine g_iald k ((le - 1) * 8 + (tgt φ k1 (p1 : Int)).toNat) hb (by omega) (by omega) (by decide) dX10_isOn_29 ?_
    rw [show Bt ((le - 1) * 8 + (tgt φ k1 (p1 : Int)).toNat) = cs (bst φ 0 x (le - 1) (tgt φ k1 (p1 : Int)).toNat) from hBt _ _ (by omega) (by omega)]
    refine g_ldc k (z := (-100000)) cn_X10_170 rfl dX10_isOn_30 ?_
    refine g_icmp_le k (tgt := 70) (by omega) (by omega) dX10_isOn_32 (by decide) (fun c32 => ?_) (fun c32 => ?_)
    · skip
      refine g_iconst k dX10_isOn_70 ?_
      rw [← hQQ]
      refine g_zreti k (by omega) rfl dX10_isOn_71 ?_
      exact ⟨rfl, bz.n (fun q => q.2.2.1 (by rw [hfb _ (by omega)]; exact hcb.1.mp (by omega)))⟩
    · skip
      refine g_iload k rfl dX10_isOn_35 ?_
      refine g_aload_n k rfl dX10_isOn_37 ?_
      refine g_iconst k dX10_isOn_38 ?_
      refine g_iload_n k rfl dX10_isOn_39 ?_
      refine g_iadd k dX10_isOn_40 ?_
      refine g_iald k (2 + k1) hn (by omega) (by omega) (by decide) dX10_isOn_41 ?_
      rw [show N (2 + k1) = (kd (φ) k1 : Int) from hR.k (by omega)]
      refine g_cSi k (As := [vi (kd (φ) k1 : Int)]) v_X10_sign ml_X10_190 (c_X10_sign (k1 := kd φ k1) (by omega)) (by omega) (by omega) rfl (Nat.le_of_ble_eq_true rfl) rfl dX10_isOn_42 (fun r42 h42 p42 => ?_)
      obtain ⟨eh42, p42⟩ := p42
      have eh42 := eh42.symm; subst eh42
      subst p42
      refine g_iadd k dX10_isOn_45 ?_
      refine g_aload_n k rfl dX10_isOn_46 ?_
      refine g_get k 10 21 (C := RX10) (T := TX10) (N := 38) fl_X10_106 rfl wi_X10 (by decide) rfl hm rfl dX10_isOn_47 ?_
      refine g_bipush k rfl dX10_isOn_50 ?_
      refine g_iload k rfl dX10_isOn_52 ?_
      refine g_imul k dX10_isOn_54 ?_
      refine g_bipush k rfl dX10_isOn_55 ?_
      refine g_isub k dX10_isOn_57 ?_
      refine g_iload k rfl dX10_isOn_58 ?_
      refine g_iadd k dX10_isOn_60 ?_
      refine g_iald k ((le - 1) * 8 + (tgt φ k1 (p1 : Int)).toNat) hb (by omega) (by omega) (by decide) dX10_isOn_61 ?_
      rw [show Bt ((le - 1) * 8 + (tgt φ k1 (p1 : Int)).toNat) = cs (bst φ 0 x (le - 1) (tgt φ k1 (p1 : Int)).toNat) from hBt _ _ (by omega) (by omega)]
      refine g_iadd k dX10_isOn_62 ?_
      refine g_if_lt k (tgt := 70) (by omega) dX10_isOn_63 (by decide) (fun c63 => ?_) (fun c63 => ?_)
      · skip
        refine g_iconst k dX10_isOn_70 ?_
        rw [← hQQ]
        refine g_zreti k (by omega) rfl dX10_isOn_71 ?_
        exact ⟨rfl, bz.n (fun q => by have q1 := q.2.2.1; have q2 := q.2.2.2; rw [hfb _ (by omega)] at q1 q2; have := hcb.2.1 q1; omega)⟩
      · skip
        refine g_iconst k dX10_isOn_66 ?_
        refine g_goto k (tgt := 71) dX10_isOn_67 (by decide) ?_
        rw [← hQQ]
        refine g_zreti k (by omega) rfl dX10_isOn_71 ?_
        exact ⟨rfl, bz.y ⟨bit0, by omega, by rw [hfb _ (by omega)]; omega, by rw [hfb _ (by omega)]; omega⟩⟩

set_option maxHeartbeats 600000 in
set_option maxRecDepth 100000 in
theorem c_X10_laysRing {G : Gx} {h : Hp} {nx : Nat} {m : Nat} {s : Nat → Int} (hm : h m = some (mo m s)) {r : Nat} {N : Nat → Int} {it : Nat} {φ : Fs} (hn : h r = some (ai G 86 N)) (hR : Rw N it φ) (hS : Sm it φ) (hrr : r ≠ m ∧ r ≠ m + 12 ∧ r ≠ m + 13) {Bt : Nat → Int} (hb : h (m + 12) = some (ai G 72 Bt)) {R : Nat → Int} (hr : h (m + 13) = some (ai G 8 R)) {k1 x y n : Nat} (hk : k1 ≤ 1) (hx : x < it) (hy : y < it) (hn1 : 1 ≤ n ∧ n ≤ 7) (hni : hit φ 0 k1 x y n → n < it) : Con G yX10_laysRing cX10_laysRing 10 (some .boolean) 3 0 0 [.ref m, .ref r, vi (k1 : Int), vi (x : Int), vi (y : Int), vi (n : Int)] h nx (PI fun z h' => bz (hit φ 0 k1 x y n) z ∧ (∃ s2 B2 R2 : Nat → Int, h' m = some (mo m s2) ∧ h' (m + 12) = some (ai G 72 B2) ∧ h' (m + 13) = some (ai G 8 R2) ∧ (∀ j, (j < 10 ∨ 13 < j) → s2 j = s j) ∧ (hit φ 0 k1 x y n → s2 10 = (n : Int) ∧ s2 11 = (x : Int) ∧ s2 12 = (y : Int) ∧ s2 13 = (trS φ 0 (fwL φ 0 x n) k1 y n n).2.2 ∧ ∀ i, i < n → R2 i = trK φ 0 (fwL φ 0 x n) k1 y n i)) ∧ ∀ q : Nat, (q ≠ m ∧ q ≠ m + 12 ∧ q ≠ m + 13) → h' q = h q) := by
  obtain ⟨h8, h28, hsm⟩ := id hS
  have hbs := bst_b (w := 0) (x := x) hS (l := n) (by omega) y
  have hcb := cs_b (B := 20) (by omega) (show bst φ 0 x n y = -1000000000 ∨ _ by omega)
  have hwt1 := wt_b k1
  have hfb := fwL_bst hS (w := 0) (x := x) (by omega) n n (Nat.le_refl n) y (by omega)
  refine Con.of v_X10_laysRing.2.2.2.2.2.1 (Nat.le_of_ble_eq_true rfl) (lv := [(0, .ref m), (1, .ref r), (2, vi (k1 : Int)), (3, vi (x : Int)), (4, vi (y : Int)), (5, vi (n : Int))]) rfl (fun X k => ?_)
  generalize hQQ : QM G X nx 0 0 _ = QQ
  have fr0 : ∀ q : Nat, (q ≠ m ∧ q ≠ m + 12 ∧ q ≠ m + 13) → h q = h q := fun _ _ => rfl
  refine g_aload_n k rfl dX10_laysRing_0 ?_
  refine g_aload_n k rfl dX10_laysRing_1 ?_
  refine g_iload_n k rfl dX10_laysRing_2 ?_
  refine g_cVv k 10 (As := [.ref r, vi (x : Int)]) v_X10_laysBest rfl rfl hm ml_X10_193 (c_X10_laysBest hm hn hR hS hrr.2.1 hb (x := x) (by omega)) (by omega) (by omega) rfl (Nat.le_of_ble_eq_true rfl) rfl dX10_laysRing_3 (fun h3 p3 => ?_)
  obtain ⟨⟨B2, nb, hBt⟩, nfr⟩ := p3
  have hm_ : h3 m = some (mo m s) := (nfr _ (by omega)).trans hm
  have hn_ : h3 r = some (ai G 86 N) := (nfr _ (by omega)).trans hn
  have hb_ : h3 (m + 12) = some (ai G 72 B2) := nb
  have hr_ : h3 (m + 13) = some (ai G 8 R) := (nfr _ (by omega)).trans hr
  have fr_ : ∀ q : Nat, (q ≠ m ∧ q ≠ m + 12 ∧ q ≠ m + 13) → h3 q = h q := fun q hq => (nfr q (by omega)).trans (fr0 q hq)
  refine g_iload_n k rfl dX10_laysRing_6 ?_
  refine g_cSi k (As := [vi (k1 : Int)]) v_X10_sign ml_X10_190 (c_X10_sign hk) (by omega) (by omega) rfl (Nat.le_of_ble_eq_true rfl) rfl dX10_laysRing_7 (fun r7 h7 p7 => ?_)
  obtain ⟨eh7, p7⟩ := p7
  have eh7 := eh7.symm; subst eh7
  subst p7
  refine g_istore k (lv2 := [(0, .ref m), (1, .ref r), (2, vi (k1 : Int)), (3, vi (x : Int)), (4, vi (y : Int)), (5, vi (n : Int)), (6, vi (wt k1))]) (by decide) rfl rfl dX10_laysRing_10 ?_
  refine g_aload_n k rfl dX10_laysRing_12 ?_
  refine g_get k 10 21 (C := RX10) (T := TX10) (N := 38) fl_X10_106 rfl wi_X10 (by decide) rfl hm_ rfl dX10_laysRing_13 ?_
  refine g_bipush k rfl dX10_laysRing_16 ?_
  refine g_iload k rfl dX10_laysRing_18 ?_
  refine g_imul k dX10_laysRing_20 ?_
  refine g_iload k rfl dX10_laysRing_21 ?_
  refine g_iadd k dX10_laysRing_23 ?_
  refine g_iald k (n * 8 + y) hb_ (by omega) (by omega) (by decide) dX10_laysRing_24 ?_
  rw [show B2 (n * 8 + y) = cs (bst φ 0 x n y) from hBt n y (by omega) (by omega)]
  refine g_ldc k (z := (-100000)) cn_X10_170 rfl dX10_laysRing_25 ?_
  refine g_icmp_eq k (tgt := 49) (by omega) (by omega) dX10_laysRing_27 (by decide) (fun c27 => ?_) (fun c27 => ?_)
  · skip
    refine g_iconst k dX10_laysRing_49 ?_
    rw [← hQQ]
    refine g_zreti k (by omega) rfl dX10_laysRing_50 ?_
    exact ⟨bz.n (fun q => q.2.1 (by rw [hfb]; exact hcb.1.mp (by omega))), ⟨s, _, _, hm_, hb_, hr_, fun _ _ => rfl, fun q => absurd (show bst φ 0 x n y = -1000000000 from hcb.1.mp (by omega)) (by rw [← hfb]; exact q.2.1)⟩, fr_⟩
  · skip
    refine g_iload k rfl dX10_laysRing_30 ?_
    refine g_aload_n k rfl dX10_laysRing_32 ?_
    refine g_get k 10 21 (C := RX10) (T := TX10) (N := 38) fl_X10_106 rfl wi_X10 (by decide) rfl hm_ rfl dX10_laysRing_33 ?_
    refine g_bipush k rfl dX10_laysRing_36 ?_
    refine g_iload k rfl dX10_laysRing_38 ?_
    refine g_imul k dX10_laysRing_40 ?_
    refine g_iload k rfl dX10_laysRing_41 ?_
    refine g_iadd k dX10_laysRing_43 ?_
    refine g_iald k (n * 8 + y) hb_ (by omega) (by omega) (by decide) dX10_laysRing_44 ?_
    rw [show B2 (n * 8 + y) = cs (bst φ 0 x n y) from hBt n y (by omega) (by omega)]
    refine g_iadd k dX10_laysRing_45 ?_
    refine g_if_ge k (tgt := 51) (by omega) dX10_laysRing_46 (by decide) (fun c46 => ?_) (fun c46 => ?_)
    · skip
      have hh : hit φ 0 k1 x y n := ⟨by omega, by rw [hfb]; omega, by rw [hfb]; omega⟩
      have hlt := hni hh
      have htg := tr_go hS hx hy hlt hh
      have hgo : ∀ i, i < n → ¬ trK φ 0 (fwL φ 0 x n) k1 y n i = -1 := fun i hi => (htg (i + 1) (by omega)).1 i (by omega)
      have htb := trS_b hS hy hgo
      refine g_aload_n k rfl dX10_laysRing_51 ?_
      refine g_iconst k dX10_laysRing_52 ?_
      refine g_put k 10 24 (C := RX10) (T := TX10) (N := 38) fl_X10_196 rfl wi_X10 tyX10 tyX10_ok nmX10 (by decide) rfl rfl rfl rfl hm_ (Nat.le_of_ble_eq_true rfl) (fs2 := mol m (fu s 10 0)) rfl rfl dX10_laysRing_53 (fun h53 eh53 => ?_)
      have hm__1 : h53 m = some (mo m (fu s 10 0)) := (congrFun eh53 _).trans hup_s
      have hn__1 : h53 r = some (ai G 86 N) := (congrFun eh53 _).trans ((hup_n (by omega)).trans hn_)
      have hb__1 : h53 (m + 12) = some (ai G 72 B2) := (congrFun eh53 _).trans ((hup_n (by omega)).trans hb_)
      have hr__1 : h53 (m + 13) = some (ai G 8 R) := (congrFun eh53 _).trans ((hup_n (by omega)).trans hr_)
      have fr__1 : ∀ q : Nat, (q ≠ m ∧ q ≠ m + 12 ∧ q ≠ m + 13) → h53 q = h q := fun q hq => (congrFun eh53 q).trans ((hup_n (by omega)).trans (fr_ q hq))
      refine g_aload_n k rfl dX10_laysRing_56 ?_
      refine g_iload_n k rfl dX10_laysRing_57 ?_
      refine g_put k 10 25 (C := RX10) (T := TX10) (N := 38) fl_X10_199 rfl wi_X10 tyX10 tyX10_ok nmX10 (by decide) rfl rfl rfl rfl hm__1 (Nat.le_of_ble_eq_true rfl) (fs2 := mol m (fu (fu s 10 0) 11 (x : Int))) rfl rfl dX10_laysRing_58 (fun h58 eh58 => ?_)
      have hm__2 : h58 m = some (mo m (fu (fu s 10 0) 11 (x : Int))) := (congrFun eh58 _).trans hup_s
      have hn__2 : h58 r = some (ai G 86 N) := (congrFun eh58 _).trans ((hup_n (by omega)).trans hn__1)
      have hb__2 : h58 (m + 12) = some (ai G 72 B2) := (congrFun eh58 _).trans ((hup_n (by omega)).trans hb__1)
      have hr__2 : h58 (m + 13) = some (ai G 8 R) := (congrFun eh58 _).trans ((hup_n (by omega)).trans hr__1)
      have fr__2 : ∀ q : Nat, (q ≠ m ∧ q ≠ m + 12 ∧ q ≠ m + 13) → h58 q = h q := fun q hq => (congrFun eh58 q).trans ((hup_n (by omega)).trans (fr__1 q hq))
      refine g_aload_n k rfl dX10_laysRing_61 ?_
      refine g_iload k rfl dX10_laysRing_62 ?_
      refine g_put k 10 26 (C := RX10) (T := TX10) (N := 38) fl_X10_202 rfl wi_X10 tyX10 tyX10_ok nmX10 (by decide) rfl rfl rfl rfl hm__2 (Nat.le_of_ble_eq_true rfl) (fs2 := mol m (fu (fu (fu s 10 0) 11 (x : Int)) 12 (y : Int))) rfl rfl dX10_laysRing_64 (fun h64 eh64 => ?_)
      have hm__3 : h64 m = some (mo m (fu (fu (fu s 10 0) 11 (x : Int)) 12 (y : Int))) := (congrFun eh64 _).trans hup_s
      have hn__3 : h64 r = some (ai G 86 N) := (congrFun eh64 _).trans ((hup_n (by omega)).trans hn__2)
      have hb__3 : h64 (m + 12) = some (ai G 72 B2) := (congrFun eh64 _).trans ((hup_n (by omega)).trans hb__2)
      have hr__3 : h64 (m + 13) = some (ai G 8 R) := (congrFun eh64 _).trans ((hup_n (by omega)).trans hr__2)
      have fr__3 : ∀ q : Nat, (q ≠ m ∧ q ≠ m + 12 ∧ q ≠ m + 13) → h64 q = h q := fun q hq => (congrFun eh64 q).trans ((hup_n (by omega)).trans (fr__2 q hq))
      refine g_aload_n k rfl dX10_laysRing_67 ?_
      have K77 : ∀ (x8 : Int) (hx8 : x8 = tBf k1), Go G X 10 QQ 0 0 nx 77 [(0, .ref m), (1, .ref r), (2, vi (k1 : Int)), (3, vi (x : Int)), (4, vi (y : Int)), (5, vi (n : Int)), (6, vi (wt k1))] [vi x8, .ref m] h64 := by
        intro x8 hx8
        refine g_put k 10 27 (C := RX10) (T := TX10) (N := 38) fl_X10_205 rfl wi_X10 tyX10 tyX10_ok nmX10 (by decide) rfl rfl rfl rfl hm__3 (Nat.le_of_ble_eq_true rfl) (fs2 := mol m (fu (fu (fu (fu s 10 0) 11 (x : Int)) 12 (y : Int)) 13 x8)) rfl rfl dX10_laysRing_77 (fun h77 eh77 => ?_)
        have hm__4 : h77 m = some (mo m (fu (fu (fu (fu s 10 0) 11 (x : Int)) 12 (y : Int)) 13 x8)) := (congrFun eh77 _).trans hup_s
        have hn__4 : h77 r = some (ai G 86 N) := (congrFun eh77 _).trans ((hup_n (by omega)).trans hn__3)
        have hb__4 : h77 (m + 12) = some (ai G 72 B2) := (congrFun eh77 _).trans ((hup_n (by omega)).trans hb__3)
        have hr__4 : h77 (m + 13) = some (ai G 8 R) := (congrFun eh77 _).trans ((hup_n (by omega)).trans hr__3)
        have fr__4 : ∀ q : Nat, (q ≠ m ∧ q ≠ m + 12 ∧ q ≠ m + 13) → h77 q = h q := fun q hq => (congrFun eh77 q).trans ((hup_n (by omega)).trans (fr__3 q hq))
        refine g_iload k rfl dX10_laysRing_80 ?_
        refine g_istore k (lv2 := [(0, .ref m), (1, .ref r), (2, vi (k1 : Int)), (3, vi (x : Int)), (4, vi (y : Int)), (5, vi (n : Int)), (6, vi (wt k1)), (7, vi (y : Int))]) (by decide) rfl rfl dX10_laysRing_82 ?_
        refine g_iload k rfl dX10_laysRing_84 ?_
        refine g_istore k (lv2 := [(0, .ref m), (1, .ref r), (2, vi (k1 : Int)), (3, vi (x : Int)), (4, vi (y : Int)), (5, vi (n : Int)), (6, vi (wt k1)), (7, vi (y : Int)), (8, vi (n : Int))]) (by decide) rfl rfl dX10_laysRing_86 ?_
        have K88 : ∀ (nz_1 : Nat) (i : Nat) (R1 : Nat → Int) (h88 : Hp) (hm__5 : h88 m = some (mo m (fu (fu (fu (fu s 10 (i : Int)) 11 (x : Int)) 12 (y : Int)) 13 ((trS φ 0 (fwL φ 0 x n) k1 y n i).2.2)))) (hn__5 : h88 r = some (ai G 86 N)) (hb__5 : h88 (m + 12) = some (ai G 72 B2)) (hr__5 : h88 (m + 13) = some (ai G 8 R1)) (fr__5 : ∀ q : Nat, (q ≠ m ∧ q ≠ m + 12 ∧ q ≠ m + 13) → h88 q = h q) (hi : i ≤ n) (hr1 : ∀ j, j < i → R1 j = trK φ 0 (fwL φ 0 x n) k1 y n j) (hmz_1 : n - i < nz_1), Go G X 10 QQ 0 0 nx 88 [(0, .ref m), (1, .ref r), (2, vi (k1 : Int)), (3, vi (x : Int)), (4, vi (y : Int)), (5, vi (n : Int)), (6, vi ((trS φ 0 (fwL φ 0 x n) k1 y n i).2.1)), (7, vi ((trS φ 0 (fwL φ 0 x n) k1 y n i).1 : Int)), (8, vi ((n - i : Nat) : Int))] [] h88 := by
          intro nz_1
          induction nz_1 with
          | zero => intro i R1 h88 hm__5 hn__5 hb__5 hr__5 fr__5 hi hr1 hmz_1; exact absurd hmz_1 (Nat.not_lt_zero _)
          | succ nz_1 ih88 =>
            intro i R1 h88 hm__5 hn__5 hb__5 hr__5 fr__5 hi hr1 hmz_1
            refine g_iload k rfl dX10_laysRing_88 ?_
            refine g_if_le k (tgt := 192) (by omega) dX10_laysRing_90 (by decide) (fun c90 => ?_) (fun c90 => ?_)
            · skip
              refine g_iconst k dX10_laysRing_192 ?_
              rw [← hQQ]
              refine g_zreti k (by omega) rfl dX10_laysRing_193 ?_
              have e : i = n := by omega
              rw [e] at hr1 hm__5
              exact ⟨bz.y hh, ⟨_, _, _, hm__5, hb__5, hr__5, (fun j hj => by rw [fu_n (by omega), fu_n (by omega), fu_n (by omega), fu_n (by omega)]), fun _ => ⟨rfl, rfl, rfl, rfl, hr1⟩⟩, fr__5⟩
            · skip
              have hb1 := htb i (by omega)
              have hgi := hgo i (by omega)
              obtain ⟨kk, em, hkk, hpm, hmin⟩ : ∃ kk : Nat, trK φ 0 (fwL φ 0 x n) k1 y n i = kk ∧ kk < φ.length ∧ stp φ 0 (fwL φ 0 x n) (trS φ 0 (fwL φ 0 x n) k1 y n i).1 (trS φ 0 (fwL φ 0 x n) k1 y n i).2.1 (n - 1 - i) kk ∧ ∀ j, j < kk → ¬ stp φ 0 (fwL φ 0 x n) (trS φ 0 (fwL φ 0 x n) k1 y n i).1 (trS φ 0 (fwL φ 0 x n) k1 y n i).2.1 (n - 1 - i) j := by
                rcases sr_is (P := stp φ 0 (fwL φ 0 x n) (trS φ 0 (fwL φ 0 x n) k1 y n i).1 (trS φ 0 (fwL φ 0 x n) k1 y n i).2.1 (n - 1 - i)) (n := φ.length) with ⟨e, -⟩ | ⟨mm, e, h1, h2, h3⟩
                · exact absurd e hgi
                · exact ⟨mm, e, h1, h2, h3⟩
              refine g_iconst k dX10_laysRing_93 ?_
              refine g_istore k (lv2 := [(0, .ref m), (1, .ref r), (2, vi (k1 : Int)), (3, vi (x : Int)), (4, vi (y : Int)), (5, vi (n : Int)), (6, vi ((trS φ 0 (fwL φ 0 x n) k1 y n i).2.1)), (7, vi ((trS φ 0 (fwL φ 0 x n) k1 y n i).1 : Int)), (8, vi ((n - i : Nat) : Int)), (9, vi 0)]) (by decide) rfl rfl dX10_laysRing_94 ?_
              have K96 : ∀ (nz_2 : Nat) (c : Nat) (hc : c ≤ kk) (hmz_2 : kk - c < nz_2), Go G X 10 QQ 0 0 nx 96 [(0, .ref m), (1, .ref r), (2, vi (k1 : Int)), (3, vi (x : Int)), (4, vi (y : Int)), (5, vi (n : Int)), (6, vi ((trS φ 0 (fwL φ 0 x n) k1 y n i).2.1)), (7, vi ((trS φ 0 (fwL φ 0 x n) k1 y n i).1 : Int)), (8, vi ((n - i : Nat) : Int)), (9, vi (c : Int))] [] h88 := by
                intro nz_2
                induction nz_2 with
                | zero => intro c hc hmz_2; exact absurd hmz_2 (Nat.not_lt_zero _)
                | succ nz_2 ih96 =>
                  intro c hc hmz_2
                  refine g_aload_n k rfl dX10_laysRing_96 ?_
                  refine g_aload_n k rfl dX10_laysRing_97 ?_
                  refine g_iload k rfl dX10_laysRing_98 ?_
                  refine g_iload k rfl dX10_laysRing_100 ?_
                  refine g_iload k rfl dX10_laysRing_102 ?_
                  refine g_iload k rfl dX10_laysRing_104 ?_
                  refine g_cVi k 10 (As := [.ref r, vi (c : Int), vi ((trS φ 0 (fwL φ 0 x n) k1 y n i).1 : Int), vi ((n - i : Nat) : Int), vi ((trS φ 0 (fwL φ 0 x n) k1 y n i).2.1)]) v_X10_isOn rfl rfl hm__5 ml_X10_208 (c_X10_isOn hm__5 hn__5 hR hS hb__5 (x := x) (by omega) hBt (k1 := c) (p1 := (trS φ 0 (fwL φ 0 x n) k1 y n i).1) (le := n - i) (n := n) (by omega) (by omega) (by omega) (sm := (trS φ 0 (fwL φ 0 x n) k1 y n i).2.1) (by omega)) (by omega) (by omega) rfl (Nat.le_of_ble_eq_true rfl) rfl dX10_laysRing_106 (fun r106 h106 p106 => ?_)
                  obtain ⟨eh106, p106⟩ := p106
                  have eh106 := eh106.symm; subst eh106
                  have q106 := p106
                  have q106r := q106.r
                  refine g_if_ne k (tgt := 118) (by omega) dX10_laysRing_109 (by decide) (fun c109 => ?_) (fun c109 => ?_)
                  · skip
                    have eck : c = kk := Nat.le_antisymm hc (Nat.not_lt.mp (fun g => hmin c g (by have := q106.t c109; rw [show n - i - 1 = n - 1 - i by omega] at this; exact this)))
                    subst eck
                    have hb2 := hsm c hkk
                    have ht := tgt_b (p := ((trS φ 0 (fwL φ 0 x n) k1 y n i).1 : Int)) hS hkk
                    have hpm1 := hpm.2.1
                    have hwt := wt_b (kd φ c)
                    refine g_aload_n k rfl dX10_laysRing_118 ?_
                    refine g_get k 10 22 (v := .ref (m + 13)) (C := RX10) (T := TX10) (N := 38) fl_X10_109 rfl wi_X10 (by decide) rfl hm__5 rfl dX10_laysRing_119 ?_
                    refine g_aload_n k rfl dX10_laysRing_122 ?_
                    refine g_get k 10 24 (v := vi (i : Int)) (C := RX10) (T := TX10) (N := 38) fl_X10_196 rfl wi_X10 (by decide) rfl hm__5 rfl dX10_laysRing_123 ?_
                    refine g_iload k rfl dX10_laysRing_126 ?_
                    refine g_iast k i hr__5 (by omega) (by omega) (by decide) dX10_laysRing_128 (fun h128 eh128 => ?_)
                    have hm__6 : h128 m = some (mo m (fu (fu (fu (fu s 10 (i : Int)) 11 (x : Int)) 12 (y : Int)) 13 ((trS φ 0 (fwL φ 0 x n) k1 y n i).2.2))) := (congrFun eh128 _).trans ((hup_n (by omega)).trans hm__5)
                    have hn__6 : h128 r = some (ai G 86 N) := (congrFun eh128 _).trans ((hup_n (by omega)).trans hn__5)
                    have hb__6 : h128 (m + 12) = some (ai G 72 B2) := (congrFun eh128 _).trans ((hup_n (by omega)).trans hb__5)
                    have hr__6 : h128 (m + 13) = some (ai G 8 (fu R1 i (c : Int))) := (congrFun eh128 _).trans hup_s
                    have fr__6 : ∀ q : Nat, (q ≠ m ∧ q ≠ m + 12 ∧ q ≠ m + 13) → h128 q = h q := fun q hq => (congrFun eh128 q).trans ((hup_n (by omega)).trans (fr__5 q hq))
                    refine g_aload_n k rfl dX10_laysRing_129 ?_
                    refine g_dup k rfl dX10_laysRing_130 ?_
                    refine g_get k 10 24 (v := vi (i : Int)) (C := RX10) (T := TX10) (N := 38) fl_X10_196 rfl wi_X10 (by decide) rfl hm__6 rfl dX10_laysRing_131 ?_
                    refine g_iconst k dX10_laysRing_134 ?_
                    refine g_iadd k dX10_laysRing_135 ?_
                    refine g_put k 10 24 (C := RX10) (T := TX10) (N := 38) fl_X10_196 rfl wi_X10 tyX10 tyX10_ok nmX10 (by decide) rfl rfl rfl rfl hm__6 (Nat.le_of_ble_eq_true rfl) (fs2 := mol m (fu (fu (fu (fu s 10 ((i : Int) + 1)) 11 (x : Int)) 12 (y : Int)) 13 ((trS φ 0 (fwL φ 0 x n) k1 y n i).2.2))) rfl rfl dX10_laysRing_136 (fun h136 eh136 => ?_)
                    have hm__7 : h136 m = some (mo m (fu (fu (fu (fu s 10 ((i : Int) + 1)) 11 (x : Int)) 12 (y : Int)) 13 ((trS φ 0 (fwL φ 0 x n) k1 y n i).2.2))) := (congrFun eh136 _).trans hup_s
                    have hn__7 : h136 r = some (ai G 86 N) := (congrFun eh136 _).trans ((hup_n (by omega)).trans hn__6)
                    have hb__7 : h136 (m + 12) = some (ai G 72 B2) := (congrFun eh136 _).trans ((hup_n (by omega)).trans hb__6)
                    have hr__7 : h136 (m + 13) = some (ai G 8 (fu R1 i (c : Int))) := (congrFun eh136 _).trans ((hup_n (by omega)).trans hr__6)
                    have fr__7 : ∀ q : Nat, (q ≠ m ∧ q ≠ m + 12 ∧ q ≠ m + 13) → h136 q = h q := fun q hq => (congrFun eh136 q).trans ((hup_n (by omega)).trans (fr__6 q hq))
                    refine g_iload k rfl dX10_laysRing_139 ?_
                    refine g_aload_n k rfl dX10_laysRing_141 ?_
                    refine g_iconst k dX10_laysRing_142 ?_
                    refine g_iload k rfl dX10_laysRing_143 ?_
                    refine g_iadd k dX10_laysRing_145 ?_
                    refine g_iald k (2 + c) hn__7 (by omega) (by omega) (by decide) dX10_laysRing_146 ?_
                    rw [show N (2 + c) = (kd (φ) c : Int) from hR.k (by omega)]
                    refine g_cSi k (As := [vi (kd (φ) c : Int)]) v_X10_sign ml_X10_190 (c_X10_sign (k1 := kd φ c) (by omega)) (by omega) (by omega) rfl (Nat.le_of_ble_eq_true rfl) rfl dX10_laysRing_147 (fun r147 h147 p147 => ?_)
                    obtain ⟨eh147, p147⟩ := p147
                    have eh147 := eh147.symm; subst eh147
                    subst p147
                    refine g_iadd k dX10_laysRing_150 ?_
                    refine g_istore k (lv2 := [(0, .ref m), (1, .ref r), (2, vi (k1 : Int)), (3, vi (x : Int)), (4, vi (y : Int)), (5, vi (n : Int)), (6, vi (((trS φ 0 (fwL φ 0 x n) k1 y n i).2.1) + (wt (kd φ c)))), (7, vi ((trS φ 0 (fwL φ 0 x n) k1 y n i).1 : Int)), (8, vi ((n - i : Nat) : Int)), (9, vi (c : Int))]) (by decide) rfl rfl dX10_laysRing_151 ?_
                    refine g_aload_n k rfl dX10_laysRing_153 ?_
                    refine g_dup k rfl dX10_laysRing_154 ?_
                    refine g_get k 10 27 (v := vi ((trS φ 0 (fwL φ 0 x n) k1 y n i).2.2)) (C := RX10) (T := TX10) (N := 38) fl_X10_205 rfl wi_X10 (by decide) rfl hm__7 rfl dX10_laysRing_155 ?_
                    have K172 : ∀ (x9 : Int) (hx9 : x9 = tBf (kd φ c)), Go G X 10 QQ 0 0 nx 172 [(0, .ref m), (1, .ref r), (2, vi (k1 : Int)), (3, vi (x : Int)), (4, vi (y : Int)), (5, vi (n : Int)), (6, vi (((trS φ 0 (fwL φ 0 x n) k1 y n i).2.1) + (wt (kd φ c)))), (7, vi ((trS φ 0 (fwL φ 0 x n) k1 y n i).1 : Int)), (8, vi ((n - i : Nat) : Int)), (9, vi (c : Int))] [vi x9, vi ((trS φ 0 (fwL φ 0 x n) k1 y n i).2.2), .ref m] h136 := by
                      intro x9 hx9
                      refine g_iadd k dX10_laysRing_172 ?_
                      refine g_put k 10 27 (C := RX10) (T := TX10) (N := 38) fl_X10_205 rfl wi_X10 tyX10 tyX10_ok nmX10 (by decide) rfl rfl rfl rfl hm__7 (Nat.le_of_ble_eq_true rfl) (fs2 := mol m (fu (fu (fu (fu s 10 ((i : Int) + 1)) 11 (x : Int)) 12 (y : Int)) 13 (((trS φ 0 (fwL φ 0 x n) k1 y n i).2.2) + x9))) rfl rfl dX10_laysRing_173 (fun h173 eh173 => ?_)
                      have hm__8 : h173 m = some (mo m (fu (fu (fu (fu s 10 ((i : Int) + 1)) 11 (x : Int)) 12 (y : Int)) 13 (((trS φ 0 (fwL φ 0 x n) k1 y n i).2.2) + x9))) := (congrFun eh173 _).trans hup_s
                      have hn__8 : h173 r = some (ai G 86 N) := (congrFun eh173 _).trans ((hup_n (by omega)).trans hn__7)
                      have hb__8 : h173 (m + 12) = some (ai G 72 B2) := (congrFun eh173 _).trans ((hup_n (by omega)).trans hb__7)
                      have hr__8 : h173 (m + 13) = some (ai G 8 (fu R1 i (c : Int))) := (congrFun eh173 _).trans ((hup_n (by omega)).trans hr__7)
                      have fr__8 : ∀ q : Nat, (q ≠ m ∧ q ≠ m + 12 ∧ q ≠ m + 13) → h173 q = h q := fun q hq => (congrFun eh173 q).trans ((hup_n (by omega)).trans (fr__7 q hq))
                      refine g_aload_n k rfl dX10_laysRing_176 ?_
                      refine g_iload k rfl dX10_laysRing_177 ?_
                      refine g_iload k rfl dX10_laysRing_179 ?_
                      refine g_cSi k (As := [.ref r, vi (c : Int), vi ((trS φ 0 (fwL φ 0 x n) k1 y n i).1 : Int)]) v_X10_leads ml_X10_187 (c_X10_leads hn__8 hR hS (k1 := c) (by omega) (p := ((trS φ 0 (fwL φ 0 x n) k1 y n i).1 : Int)) (by omega)) (by omega) (by omega) rfl (Nat.le_of_ble_eq_true rfl) rfl dX10_laysRing_181 (fun r181 h181 p181 => ?_)
                      obtain ⟨eh181, p181⟩ := p181
                      have eh181 := eh181.symm; subst eh181
                      subst p181
                      refine g_istore k (lv2 := [(0, .ref m), (1, .ref r), (2, vi (k1 : Int)), (3, vi (x : Int)), (4, vi (y : Int)), (5, vi (n : Int)), (6, vi (((trS φ 0 (fwL φ 0 x n) k1 y n i).2.1) + (wt (kd φ c)))), (7, vi (tgt φ c ((trS φ 0 (fwL φ 0 x n) k1 y n i).1 : Int))), (8, vi ((n - i : Nat) : Int)), (9, vi (c : Int))]) (by decide) rfl rfl dX10_laysRing_184 ?_
                      refine g_iinc k (lv2 := [(0, .ref m), (1, .ref r), (2, vi (k1 : Int)), (3, vi (x : Int)), (4, vi (y : Int)), (5, vi (n : Int)), (6, vi (((trS φ 0 (fwL φ 0 x n) k1 y n i).2.1) + (wt (kd φ c)))), (7, vi (tgt φ c ((trS φ 0 (fwL φ 0 x n) k1 y n i).1 : Int))), (8, vi (((n - i : Nat) : Int) + (-1))), (9, vi (c : Int))]) rfl (by decide) rfl rfl dX10_laysRing_186 ?_
                      refine g_goto k (tgt := 88) dX10_laysRing_189 (by decide) ?_
                      refine g_less (lv2 := [(0, .ref m), (1, .ref r), (2, vi (k1 : Int)), (3, vi (x : Int)), (4, vi (y : Int)), (5, vi (n : Int)), (6, vi (((trS φ 0 (fwL φ 0 x n) k1 y n i).2.1) + (wt (kd φ c)))), (7, vi (tgt φ c ((trS φ 0 (fwL φ 0 x n) k1 y n i).1 : Int))), (8, vi (((n - i : Nat) : Int) + (-1)))]) ⟨rfl, rfl, rfl, rfl, rfl, rfl, rfl, rfl, rfl, trivial⟩ ?_
                      have ets := trS_s φ 0 (fwL φ 0 x n) k1 y n i
                      rw [em, Int.toNat_natCast] at ets
                      rw [show tgt φ c ((trS φ 0 (fwL φ 0 x n) k1 y n i).1 : Int) = (((trS φ 0 (fwL φ 0 x n) k1 y n (i + 1)).1 : Nat) : Int) by rw [ets]; show _ = (((tgt φ c ((trS φ 0 (fwL φ 0 x n) k1 y n i).1 : Int)).toNat : Nat) : Int); omega, show (trS φ 0 (fwL φ 0 x n) k1 y n i).2.1 + wt (kd φ c) = (trS φ 0 (fwL φ 0 x n) k1 y n (i + 1)).2.1 by rw [ets], show ((n - i : Nat) : Int) + (-1) = ((n - (i + 1) : Nat) : Int) by omega]
                      rw [show (trS φ 0 (fwL φ 0 x n) k1 y n i).2.2 + x9 = (trS φ 0 (fwL φ 0 x n) k1 y n (i + 1)).2.2 by rw [ets, hx9]] at hm__8
                      exact ih88 (i + 1) _ h173 hm__8 hn__8 hb__8 hr__8 fr__8 (by omega) (lt_s2 (fun j hj => (fu_n (by omega)).trans (hr1 j hj)) (fu_s.trans em.symm)) (by omega)
                    refine g_aload_n k rfl dX10_laysRing_158 ?_
                    refine g_iconst k dX10_laysRing_159 ?_
                    refine g_iload k rfl dX10_laysRing_160 ?_
                    refine g_iadd k dX10_laysRing_162 ?_
                    refine g_iald k (2 + c) hn__7 (by omega) (by omega) (by decide) dX10_laysRing_163 ?_
                    rw [show N (2 + c) = (kd (φ) c : Int) from hR.k (by omega)]
                    refine g_if_ne k (tgt := 171) (by omega) dX10_laysRing_164 (by decide) (fun c164 => ?_) (fun c164 => ?_)
                    · skip
                      refine g_iconst k dX10_laysRing_171 ?_
                      exact K172 _ (by unfold tBf; split <;> omega)
                    · skip
                      refine g_iconst k dX10_laysRing_167 ?_
                      refine g_goto k (tgt := 172) dX10_laysRing_168 (by decide) ?_
                      exact K172 _ (by unfold tBf; split <;> omega)
                  · skip
                    have hne : c ≠ kk := fun g => q106.f (by omega) (by rw [g]; rw [show n - i - 1 = n - 1 - i by omega]; exact hpm)
                    refine g_iinc k (lv2 := [(0, .ref m), (1, .ref r), (2, vi (k1 : Int)), (3, vi (x : Int)), (4, vi (y : Int)), (5, vi (n : Int)), (6, vi ((trS φ 0 (fwL φ 0 x n) k1 y n i).2.1)), (7, vi ((trS φ 0 (fwL φ 0 x n) k1 y n i).1 : Int)), (8, vi ((n - i : Nat) : Int)), (9, vi ((c : Int) + 1))]) rfl (by decide) rfl rfl dX10_laysRing_112 ?_
                    refine g_goto k (tgt := 96) dX10_laysRing_115 (by decide) ?_
                    exact ih96 (c + 1) (by omega) (by omega)
              exact K96 _ 0 (Nat.zero_le _) (Nat.lt_succ_self _)
        rw [hx8] at hm__4
        exact K88 _ 0 _ h77 hm__4 hn__4 hb__4 hr__4 fr__4 (Nat.zero_le _) (fun j hj => absurd hj (Nat.not_lt_zero j)) (Nat.lt_succ_self _)
      refine g_iload_n k rfl dX10_laysRing_68 ?_
      refine g_if_ne k (tgt := 76) (by omega) dX10_laysRing_69 (by decide) (fun c69 => ?_) (fun c69 => ?_)
      · skip
        refine g_iconst k dX10_laysRing_76 ?_
        exact K77 _ (by unfold tBf; split <;> omega)
      · skip
        refine g_iconst k dX10_laysRing_72 ?_
        refine g_goto k (tgt := 77) dX10_laysRing_73 (by decide) ?_
        exact K77 _ (by unfold tBf; split <;> omega)
    · skip
      refine g_iconst k dX10_laysRing_49 ?_
      rw [← hQQ]
      refine g_zreti k (by omega) rfl dX10_laysRing_50 ?_
      have hno : ¬ hit φ 0 k1 x y n := fun q => by have q1 := q.2.1; have q2 := q.2.2; rw [hfb] at q1 q2; have := hcb.2.1 q1; omega
      exact ⟨bz.n hno, ⟨s, _, _, hm_, hb_, hr_, fun _ _ => rfl, fun q => absurd q hno⟩, fr_⟩

set_option maxHeartbeats 600000 in
set_option maxRecDepth 100000 in
theorem c_X10_isRefuted {G : Gx} {h : Hp} {nx : Nat} {m : Nat} {s : Nat → Int} (hm : h m = some (mo m s)) {r : Nat} {N : Nat → Int} {it : Nat} {φ : Fs} (hn : h r = some (ai G 86 N)) (hR : Rw N it φ) (hS : Sm it φ) (hrr : r ≠ m ∧ r ≠ m + 12 ∧ r ≠ m + 13) {Bt : Nat → Int} (hb : h (m + 12) = some (ai G 72 Bt)) {R : Nat → Int} (hr : h (m + 13) = some (ai G 8 R)) (hG : Good φ) {k1 x y : Nat} (hk : k1 ≤ 1) (hx : x < it) (hy : y < it) (hne : x ≠ y) : Con G yX10_isRefuted cX10_isRefuted 6 (some .boolean) 4 0 0 [.ref m, .ref r, vi (k1 : Int), vi (x : Int), vi (y : Int)] h nx (PI fun z h' => bz (rfd φ 0 it k1 x y) z ∧ (∃ s2 B2 R2 : Nat → Int, h' m = some (mo m s2) ∧ h' (m + 12) = some (ai G 72 B2) ∧ h' (m + 13) = some (ai G 8 R2) ∧ (∀ j, (j < 10 ∨ 13 < j) → s2 j = s j) ∧ (rfd φ 0 it k1 x y → ∀ V : RV, RgV s2 R2 (skV φ 0 it k1 x y V))) ∧ ∀ q : Nat, (q ≠ m ∧ q ≠ m + 12 ∧ q ≠ m + 13) → h' q = h q) := by
  obtain ⟨h8, h28, hsm⟩ := id hS
  refine Con.of v_X10_isRefuted.2.2.2.2.2.1 (Nat.le_of_ble_eq_true rfl) (lv := [(0, .ref m), (1, .ref r), (2, vi (k1 : Int)), (3, vi (x : Int)), (4, vi (y : Int))]) rfl (fun X k => ?_)
  generalize hQQ : QM G X nx 0 0 _ = QQ
  have fr0 : ∀ q : Nat, (q ≠ m ∧ q ≠ m + 12 ∧ q ≠ m + 13) → h q = h q := fun _ _ => rfl
  refine g_iconst k dX10_isRefuted_0 ?_
  refine g_istore k (lv2 := [(0, .ref m), (1, .ref r), (2, vi (k1 : Int)), (3, vi (x : Int)), (4, vi (y : Int)), (5, vi 1)]) (by decide) rfl rfl dX10_isRefuted_1 ?_
  have K3 : ∀ (nz : Nat) (n : Nat) (s1 : Nat → Int) (B1 : Nat → Int) (R1 : Nat → Int) (h3 : Hp) (hm_ : h3 m = some (mo m s1)) (hn_ : h3 r = some (ai G 86 N)) (hb_ : h3 (m + 12) = some (ai G 72 B1)) (hr_ : h3 (m + 13) = some (ai G 8 R1)) (fr_ : ∀ q : Nat, (q ≠ m ∧ q ≠ m + 12 ∧ q ≠ m + 13) → h3 q = h q) (hn8 : 1 ≤ n ∧ n ≤ 8) (hs1 : ∀ j, (j < 10 ∨ 13 < j) → s1 j = s j) (hA : ∀ j, j < n → ¬ hit φ 0 k1 x y j) (hB : k1 = 1 → ∀ j, j < n → ¬ hit φ 0 k1 y x j) (hmz : 8 - n < nz), Go G X 6 QQ 0 0 nx 3 [(0, .ref m), (1, .ref r), (2, vi (k1 : Int)), (3, vi (x : Int)), (4, vi (y : Int)), (5, vi (n : Int))] [] h3 := by
    intro nz
    induction nz with
    | zero => intro n s1 B1 R1 h3 hm_ hn_ hb_ hr_ fr_ hn8 hs1 hA hB hmz; exact absurd hmz (Nat.not_lt_zero _)
    | succ nz ih3 =>
      intro n s1 B1 R1 h3 hm_ hn_ hb_ hr_ fr_ hn8 hs1 hA hB hmz
      refine g_iload k rfl dX10_isRefuted_3 ?_
      refine g_bipush k rfl dX10_isRefuted_5 ?_
      refine g_icmp_ge k (tgt := 53) (by omega) (by omega) dX10_isRefuted_7 (by decide) (fun c7 => ?_) (fun c7 => ?_)
      · skip
        refine g_iconst k dX10_isRefuted_53 ?_
        rw [← hQQ]
        refine g_zreti k (by omega) rfl dX10_isRefuted_54 ?_
        have hno := sk_none (it := it) (fun j hj => hA j (by omega)) (fun g j hj => hB g j (by omega))
        exact ⟨bz.n hno, ⟨s1, B1, R1, hm_, hb_, hr_, hs1, fun q => absurd q hno⟩, fr_⟩
      · skip
        refine g_aload_n k rfl dX10_isRefuted_10 ?_
        refine g_aload_n k rfl dX10_isRefuted_11 ?_
        refine g_iload_n k rfl dX10_isRefuted_12 ?_
        refine g_iload_n k rfl dX10_isRefuted_13 ?_
        refine g_iload k rfl dX10_isRefuted_14 ?_
        refine g_iload k rfl dX10_isRefuted_16 ?_
        refine g_cVi k 10 (As := [.ref r, vi (k1 : Int), vi (x : Int), vi (y : Int), vi (n : Int)]) v_X10_laysRing rfl rfl hm_ ml_X10_212 (c_X10_laysRing hm_ hn_ hR hS hrr hb_ hr_ (k1 := k1) (x := x) (y := y) (n := n) hk hx hy (by omega) (fun q => hit_lt hS hG hx hy hne (by omega) q hA)) (by omega) (by omega) rfl (Nat.le_of_ble_eq_true rfl) rfl dX10_isRefuted_18 (fun r18 h18 p18 => ?_)
        obtain ⟨hz, ⟨sa, Ba, Ra, nm, nb, nr, hsa, hda⟩, nfr⟩ := p18
        have hm__1 : h18 m = some (mo m sa) := nm
        have hn__1 : h18 r = some (ai G 86 N) := (nfr _ (by omega)).trans hn_
        have hb__1 : h18 (m + 12) = some (ai G 72 Ba) := nb
        have hr__1 : h18 (m + 13) = some (ai G 8 Ra) := nr
        have fr__1 : ∀ q : Nat, (q ≠ m ∧ q ≠ m + 12 ∧ q ≠ m + 13) → h18 q = h q := fun q hq => (nfr q (by omega)).trans (fr_ q hq)
        have hzr := hz.r
        refine g_if_eq k (tgt := 26) (by omega) dX10_isRefuted_21 (by decide) (fun c21 => ?_) (fun c21 => ?_)
        · skip
          refine g_iload_n k rfl dX10_isRefuted_26 ?_
          refine g_iconst k dX10_isRefuted_27 ?_
          refine g_icmp_ne k (tgt := 47) (by omega) (by omega) dX10_isRefuted_28 (by decide) (fun c28 => ?_) (fun c28 => ?_)
          · skip
            refine g_iinc k (lv2 := [(0, .ref m), (1, .ref r), (2, vi (k1 : Int)), (3, vi (x : Int)), (4, vi (y : Int)), (5, vi ((n : Int) + 1))]) rfl (by decide) rfl rfl dX10_isRefuted_47 ?_
            refine g_goto k (tgt := 3) dX10_isRefuted_50 (by decide) ?_
            exact ih3 (n + 1) _ _ _ h18 hm__1 hn__1 hb__1 hr__1 fr__1 (by omega) (fun j hj => (hsa j hj).trans (hs1 j hj)) (lt_s2 hA (hz.f (by omega))) (fun g => by omega) (by omega)
          · skip
            refine g_aload_n k rfl dX10_isRefuted_31 ?_
            refine g_aload_n k rfl dX10_isRefuted_32 ?_
            refine g_iload_n k rfl dX10_isRefuted_33 ?_
            refine g_iload k rfl dX10_isRefuted_34 ?_
            refine g_iload_n k rfl dX10_isRefuted_36 ?_
            refine g_iload k rfl dX10_isRefuted_37 ?_
            refine g_cVi k 10 (As := [.ref r, vi (k1 : Int), vi (y : Int), vi (x : Int), vi (n : Int)]) v_X10_laysRing rfl rfl hm__1 ml_X10_212 (c_X10_laysRing hm__1 hn__1 hR hS hrr hb__1 hr__1 (k1 := k1) (x := y) (y := x) (n := n) hk hy hx (by omega) (fun q => hit_lt hS hG hy hx (Ne.symm hne) (by omega) q (hB (by omega)))) (by omega) (by omega) rfl (Nat.le_of_ble_eq_true rfl) rfl dX10_isRefuted_39 (fun r39 h39 p39 => ?_)
            obtain ⟨hz2, ⟨sa2, Ba2, Ra2, nm2, nb2, nr2, hsa2, hda2⟩, nfr2⟩ := p39
            have hm__2 : h39 m = some (mo m sa2) := nm2
            have hn__2 : h39 r = some (ai G 86 N) := (nfr2 _ (by omega)).trans hn__1
            have hb__2 : h39 (m + 12) = some (ai G 72 Ba2) := nb2
            have hr__2 : h39 (m + 13) = some (ai G 8 Ra2) := nr2
            have fr__2 : ∀ q : Nat, (q ≠ m ∧ q ≠ m + 12 ∧ q ≠ m + 13) → h39 q = h q := fun q hq => (nfr2 q (by omega)).trans (fr__1 q hq)
            have hzr2 := hz2.r
            refine g_if_eq k (tgt := 47) (by omega) dX10_isRefuted_42 (by decide) (fun c42 => ?_) (fun c42 => ?_)
            · skip
              refine g_iinc k (lv2 := [(0, .ref m), (1, .ref r), (2, vi (k1 : Int)), (3, vi (x : Int)), (4, vi (y : Int)), (5, vi ((n : Int) + 1))]) rfl (by decide) rfl rfl dX10_isRefuted_47 ?_
              refine g_goto k (tgt := 3) dX10_isRefuted_50 (by decide) ?_
              exact ih3 (n + 1) _ _ _ h39 hm__2 hn__2 hb__2 hr__2 fr__2 (by omega) (fun j hj => (hsa2 j hj).trans ((hsa j hj).trans (hs1 j hj))) (lt_s2 hA (hz.f (by omega))) (fun g => lt_s2 (hB g) (hz2.f (by omega))) (by omega)
            · skip
              refine g_iconst k dX10_isRefuted_45 ?_
              rw [← hQQ]
              refine g_zreti k (by omega) rfl dX10_isRefuted_46 ?_
              have hh := hz2.t (by omega)
              have hk1 : k1 = 1 := by omega
              have hlt := hit_lt hS hG hy hx (Ne.symm hne) (by omega) hh (hB hk1)
              have e := sk_second hk1 hlt hh (hB hk1) (fun j hj => lt_s2 hA (hz.f (by omega)) j (by omega))
              have hd := hda2 hh
              exact ⟨bz.y (by unfold rfd; rw [e]; exact hn8.1), ⟨sa2, Ba2, Ra2, hm__2, hb__2, hr__2, fun j hj => (hsa2 j hj).trans ((hsa j hj).trans (hs1 j hj)), fun _ V => by rw [skV_of e hn8.1]; exact ⟨by rw [hd.1], hd.2.2.2.1, hd.2.1, hd.2.2.1, fun i hi => hd.2.2.2.2 i (by simp only at hi; omega)⟩⟩, fr__2⟩
        · skip
          refine g_iconst k dX10_isRefuted_24 ?_
          rw [← hQQ]
          refine g_zreti k (by omega) rfl dX10_isRefuted_25 ?_
          have hh := hz.t (by omega)
          have hlt := hit_lt hS hG hx hy hne (by omega) hh hA
          have e := sk_first hlt hh hA hB
          have hd := hda hh
          exact ⟨bz.y (by unfold rfd; rw [e]; exact hn8.1), ⟨sa, Ba, Ra, hm__1, hb__1, hr__1, fun j hj => (hsa j hj).trans (hs1 j hj), fun _ V => by rw [skV_of e hn8.1]; exact ⟨by rw [hd.1], hd.2.2.2.1, hd.2.1, hd.2.2.1, fun i hi => hd.2.2.2.2 i (by simp only at hi; omega)⟩⟩, fr__1⟩
  exact K3 _ 1 _ _ _ h hm hn hb hr fr0 ⟨Nat.le_refl _, by omega⟩ (fun _ _ => rfl) (fun j hj q => by have := q.1; omega) (fun _ j hj q => by have := q.1; omega) (Nat.lt_succ_self _)

set_option maxHeartbeats 600000 in
set_option maxRecDepth 100000 in
theorem c_X10_keepsRing {G : Gx} {h : Hp} {nx : Nat} {m : Nat} {s : Nat → Int} (hm : h m = some (mo m s)) {R : Nat → Int} (hr : h (m + 13) = some (ai G 8 R)) {Q : Nat → Int} (hv : h (m + 14) = some (ai G 8 Q)) {n : Nat} (hs10 : s 10 = (n : Int)) (hn8 : n ≤ 8) : Con G yX10_keepsRing cX10_keepsRing 2 none 1 0 0 [.ref m] h nx (PV fun h' => (h' m = some (mo m (fu (fu (fu (fu s 14 (s 10)) 15 (s 11)) 16 (s 12)) 17 (s 13))) ∧ ∃ Q2 : Nat → Int, h' (m + 14) = some (ai G 8 Q2) ∧ ∀ i, i < n → Q2 i = R i) ∧ ∀ q : Nat, (q ≠ m ∧ q ≠ m + 14) → h' q = h q) := by
  refine Con.of v_X10_keepsRing.2.2.2.2.2.1 (Nat.le_of_ble_eq_true rfl) (lv := [(0, .ref m)]) rfl (fun X k => ?_)
  generalize hQQ : QM G X nx 0 0 _ = QQ
  have fr0 : ∀ q : Nat, (q ≠ m ∧ q ≠ m + 14) → h q = h q := fun _ _ => rfl
  refine g_aload_n k rfl dX10_keepsRing_0 ?_
  refine g_aload_n k rfl dX10_keepsRing_1 ?_
  refine g_get k 10 24 (C := RX10) (T := TX10) (N := 38) fl_X10_196 rfl wi_X10 (by decide) rfl hm rfl dX10_keepsRing_2 ?_
  refine g_put k 10 28 (C := RX10) (T := TX10) (N := 38) fl_X10_115 rfl wi_X10 tyX10 tyX10_ok nmX10 (by decide) rfl rfl rfl rfl hm (Nat.le_of_ble_eq_true rfl) (fs2 := mol m (fu s 14 (s 10))) rfl rfl dX10_keepsRing_5 (fun h5 eh5 => ?_)
  have hm_ : h5 m = some (mo m (fu s 14 (s 10))) := (congrFun eh5 _).trans hup_s
  have hr_ : h5 (m + 13) = some (ai G 8 R) := (congrFun eh5 _).trans ((hup_n (by omega)).trans hr)
  have hv_ : h5 (m + 14) = some (ai G 8 Q) := (congrFun eh5 _).trans ((hup_n (by omega)).trans hv)
  have fr_ : ∀ q : Nat, (q ≠ m ∧ q ≠ m + 14) → h5 q = h q := fun q hq => (congrFun eh5 q).trans ((hup_n (by omega)).trans (fr0 q hq))
  refine g_aload_n k rfl dX10_keepsRing_8 ?_
  refine g_aload_n k rfl dX10_keepsRing_9 ?_
  refine g_get k 10 25 (v := vi (s 11)) (C := RX10) (T := TX10) (N := 38) fl_X10_199 rfl wi_X10 (by decide) rfl hm_ rfl dX10_keepsRing_10 ?_
  refine g_put k 10 29 (C := RX10) (T := TX10) (N := 38) fl_X10_215 rfl wi_X10 tyX10 tyX10_ok nmX10 (by decide) rfl rfl rfl rfl hm_ (Nat.le_of_ble_eq_true rfl) (fs2 := mol m (fu (fu s 14 (s 10)) 15 (s 11))) rfl rfl dX10_keepsRing_13 (fun h13 eh13 => ?_)
  have hm__1 : h13 m = some (mo m (fu (fu s 14 (s 10)) 15 (s 11))) := (congrFun eh13 _).trans hup_s
  have hr__1 : h13 (m + 13) = some (ai G 8 R) := (congrFun eh13 _).trans ((hup_n (by omega)).trans hr_)
  have hv__1 : h13 (m + 14) = some (ai G 8 Q) := (congrFun eh13 _).trans ((hup_n (by omega)).trans hv_)
  have fr__1 : ∀ q : Nat, (q ≠ m ∧ q ≠ m + 14) → h13 q = h q := fun q hq => (congrFun eh13 q).trans ((hup_n (by omega)).trans (fr_ q hq))
  refine g_aload_n k rfl dX10_keepsRing_16 ?_
  refine g_aload_n k rfl dX10_keepsRing_17 ?_
  refine g_get k 10 26 (v := vi (s 12)) (C := RX10) (T := TX10) (N := 38) fl_X10_202 rfl wi_X10 (by decide) rfl hm__1 rfl dX10_keepsRing_18 ?_
  refine g_put k 10 30 (C := RX10) (T := TX10) (N := 38) fl_X10_218 rfl wi_X10 tyX10 tyX10_ok nmX10 (by decide) rfl rfl rfl rfl hm__1 (Nat.le_of_ble_eq_true rfl) (fs2 := mol m (fu (fu (fu s 14 (s 10)) 15 (s 11)) 16 (s 12))) rfl rfl dX10_keepsRing_21 (fun h21 eh21 => ?_)
  have hm__2 : h21 m = some (mo m (fu (fu (fu s 14 (s 10)) 15 (s 11)) 16 (s 12))) := (congrFun eh21 _).trans hup_s
  have hr__2 : h21 (m + 13) = some (ai G 8 R) := (congrFun eh21 _).trans ((hup_n (by omega)).trans hr__1)
  have hv__2 : h21 (m + 14) = some (ai G 8 Q) := (congrFun eh21 _).trans ((hup_n (by omega)).trans hv__1)
  have fr__2 : ∀ q : Nat, (q ≠ m ∧ q ≠ m + 14) → h21 q = h q := fun q hq => (congrFun eh21 q).trans ((hup_n (by omega)).trans (fr__1 q hq))
  refine g_aload_n k rfl dX10_keepsRing_24 ?_
  refine g_aload_n k rfl dX10_keepsRing_25 ?_
  refine g_get k 10 27 (v := vi (s 13)) (C := RX10) (T := TX10) (N := 38) fl_X10_205 rfl wi_X10 (by decide) rfl hm__2 rfl dX10_keepsRing_26 ?_
  refine g_put k 10 31 (C := RX10) (T := TX10) (N := 38) fl_X10_221 rfl wi_X10 tyX10 tyX10_ok nmX10 (by decide) rfl rfl rfl rfl hm__2 (Nat.le_of_ble_eq_true rfl) (fs2 := mol m (fu (fu (fu (fu s 14 (s 10)) 15 (s 11)) 16 (s 12)) 17 (s 13))) rfl rfl dX10_keepsRing_29 (fun h29 eh29 => ?_)
  have hm__3 : h29 m = some (mo m (fu (fu (fu (fu s 14 (s 10)) 15 (s 11)) 16 (s 12)) 17 (s 13))) := (congrFun eh29 _).trans hup_s
  have hr__3 : h29 (m + 13) = some (ai G 8 R) := (congrFun eh29 _).trans ((hup_n (by omega)).trans hr__2)
  have hv__3 : h29 (m + 14) = some (ai G 8 Q) := (congrFun eh29 _).trans ((hup_n (by omega)).trans hv__2)
  have fr__3 : ∀ q : Nat, (q ≠ m ∧ q ≠ m + 14) → h29 q = h q := fun q hq => (congrFun eh29 q).trans ((hup_n (by omega)).trans (fr__2 q hq))
  refine g_iconst k dX10_keepsRing_32 ?_
  refine g_istore_n k (lv2 := [(0, .ref m), (1, vi 0)]) (by decide) rfl rfl dX10_keepsRing_33 ?_
  have K34 : ∀ (nz : Nat) (i : Nat) (Q1 : Nat → Int) (h34 : Hp) (hm__4 : h34 m = some (mo m (fu (fu (fu (fu s 14 (s 10)) 15 (s 11)) 16 (s 12)) 17 (s 13)))) (hr__4 : h34 (m + 13) = some (ai G 8 R)) (hv__4 : h34 (m + 14) = some (ai G 8 Q1)) (fr__4 : ∀ q : Nat, (q ≠ m ∧ q ≠ m + 14) → h34 q = h q) (hi : i ≤ n) (hq : ∀ j, j < i → Q1 j = R j) (hmz : n - i < nz), Go G X 2 QQ 0 0 nx 34 [(0, .ref m), (1, vi (i : Int))] [] h34 := by
    intro nz
    induction nz with
    | zero => intro i Q1 h34 hm__4 hr__4 hv__4 fr__4 hi hq hmz; exact absurd hmz (Nat.not_lt_zero _)
    | succ nz ih34 =>
      intro i Q1 h34 hm__4 hr__4 hv__4 fr__4 hi hq hmz
      refine g_iload_n k rfl dX10_keepsRing_34 ?_
      refine g_aload_n k rfl dX10_keepsRing_35 ?_
      refine g_get k 10 24 (v := vi (s 10)) (C := RX10) (T := TX10) (N := 38) fl_X10_196 rfl wi_X10 (by decide) rfl hm__4 rfl dX10_keepsRing_36 ?_
      refine g_icmp_ge k (tgt := 60) (by omega) (by omega) dX10_keepsRing_39 (by decide) (fun c39 => ?_) (fun c39 => ?_)
      · skip
        rw [← hQQ]
        refine g_retv k rfl dX10_keepsRing_60 ?_
        exact ⟨⟨hm__4, Q1, hv__4, fun j hj => hq j (by omega)⟩, fr__4⟩
      · skip
        refine g_aload_n k rfl dX10_keepsRing_42 ?_
        refine g_get k 10 23 (v := .ref (m + 14)) (C := RX10) (T := TX10) (N := 38) fl_X10_112 rfl wi_X10 (by decide) rfl hm__4 rfl dX10_keepsRing_43 ?_
        refine g_iload_n k rfl dX10_keepsRing_46 ?_
        refine g_aload_n k rfl dX10_keepsRing_47 ?_
        refine g_get k 10 22 (v := .ref (m + 13)) (C := RX10) (T := TX10) (N := 38) fl_X10_109 rfl wi_X10 (by decide) rfl hm__4 rfl dX10_keepsRing_48 ?_
        refine g_iload_n k rfl dX10_keepsRing_51 ?_
        refine g_iald k i hr__4 (by omega) (by omega) (by decide) dX10_keepsRing_52 ?_
        refine g_iast k i hv__4 (by omega) (by omega) (by decide) dX10_keepsRing_53 (fun h53 eh53 => ?_)
        have hm__5 : h53 m = some (mo m (fu (fu (fu (fu s 14 (s 10)) 15 (s 11)) 16 (s 12)) 17 (s 13))) := (congrFun eh53 _).trans ((hup_n (by omega)).trans hm__4)
        have hr__5 : h53 (m + 13) = some (ai G 8 R) := (congrFun eh53 _).trans ((hup_n (by omega)).trans hr__4)
        have hv__5 : h53 (m + 14) = some (ai G 8 (fu Q1 i (R i))) := (congrFun eh53 _).trans hup_s
        have fr__5 : ∀ q : Nat, (q ≠ m ∧ q ≠ m + 14) → h53 q = h q := fun q hq => (congrFun eh53 q).trans ((hup_n (by omega)).trans (fr__4 q hq))
        refine g_iinc k (lv2 := [(0, .ref m), (1, vi ((i : Int) + 1))]) rfl (by decide) rfl rfl dX10_keepsRing_54 ?_
        refine g_goto k (tgt := 34) dX10_keepsRing_57 (by decide) ?_
        exact ih34 (i + 1) _ h53 hm__5 hr__5 hv__5 fr__5 (by omega) (lt_s2 (fun j hj => (fu_n (by omega)).trans (hq j hj)) fu_s) (by omega)
  exact K34 _ 0 _ h29 hm__3 hr__3 hv__3 fr__3 (Nat.zero_le _) (fun j hj => absurd hj (Nat.not_lt_zero j)) (Nat.lt_succ_self _)

