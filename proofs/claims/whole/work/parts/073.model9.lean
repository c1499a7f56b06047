/-! the reference: make, drop, draws, finish -/
set_option maxHeartbeats 600000 in
set_option maxRecDepth 100000 in
theorem c1_X10_tells {G : Gx} {h : Hp} {nx : Nat} {r : Nat} {N : Nat → Int} {it : Nat} {φ : Fs} (hn : h r = some (ai G 86 N)) (hR : Rw N it φ) (hl : φ.length < 28) {k1 x y : Nat} : Con G yX10_tells cX10_tells 5 none 1 0 0 [.ref r, vi (k1 : Int), vi (x : Int), vi (y : Int)] h nx (PV fun h' => aN G it (φ ++ [(k1, x, y)]) (h' r) ∧ ∀ q : Nat, q ≠ r → h' q = h q) := by
  refine Con.of v_X10_tells.2.2.2.2.1 (Nat.le_of_ble_eq_true rfl) (lv := [(0, .ref r), (1, vi (k1 : Int)), (2, vi (x : Int)), (3, vi (y : Int))]) rfl (fun X k => ?_)
  generalize hQQ : QM G X nx 0 0 _ = QQ
  have fr0 : ∀ q : Nat, q ≠ r → h q = h q := fun _ _ => rfl
  refine g_aload_n k rfl dX10_tells_0 ?_
  refine g_iconst k dX10_tells_1 ?_
  refine g_iald k 1 hn (by omega) (by omega) (by decide) dX10_tells_2 ?_
  rw [show N 1 = (φ.length : Int) from hR.n]
  refine g_istore k (lv2 := [(0, .ref r), (1, vi (k1 : Int)), (2, vi (x : Int)), (3, vi (y : Int)), (4, vi (φ.length : Int))]) (by decide) rfl rfl dX10_tells_3 ?_
  refine g_aload_n k rfl dX10_tells_5 ?_
  refine g_iconst k dX10_tells_6 ?_
  refine g_iload k rfl dX10_tells_7 ?_
  refine g_iadd k dX10_tells_9 ?_
  refine g_iload_n k rfl dX10_tells_10 ?_
  refine g_iast k (2 + φ.length) hn (by omega) (by omega) (by decide) dX10_tells_11 (fun h11 eh11 => ?_)
  have hn_ : h11 r = some (ai G 86 (fu N (2 + φ.length) (k1 : Int))) := (congrFun eh11 _).trans hup_s
  have fr_ : ∀ q : Nat, q ≠ r → h11 q = h q := fun q hq => (congrFun eh11 q).trans ((hup_n (by omega)).trans (fr0 q hq))
  refine g_aload_n k rfl dX10_tells_12 ?_
  refine g_bipush k rfl dX10_tells_13 ?_
  refine g_iload k rfl dX10_tells_15 ?_
  refine g_iadd k dX10_tells_17 ?_
  refine g_iload_n k rfl dX10_tells_18 ?_
  refine g_iast k (30 + φ.length) hn_ (by omega) (by omega) (by decide) dX10_tells_19 (fun h19 eh19 => ?_)
  have hn__1 : h19 r = some (ai G 86 (fu (fu N (2 + φ.length) (k1 : Int)) (30 + φ.length) (x : Int))) := (congrFun eh19 _).trans hup_s
  have fr__1 : ∀ q : Nat, q ≠ r → h19 q = h q := fun q hq => (congrFun eh19 q).trans ((hup_n (by omega)).trans (fr_ q hq))
  refine g_aload_n k rfl dX10_tells_20 ?_
  refine g_bipush k rfl dX10_tells_21 ?_
  refine g_iload k rfl dX10_tells_23 ?_
  refine g_iadd k dX10_tells_25 ?_
  refine g_iload_n k rfl dX10_tells_26 ?_
  refine g_iast k (58 + φ.length) hn__1 (by omega) (by omega) (by decide) dX10_tells_27 (fun h27 eh27 => ?_)
  have hn__2 : h27 r = some (ai G 86 (fu (fu (fu N (2 + φ.length) (k1 : Int)) (30 + φ.length) (x : Int)) (58 + φ.length) (y : Int))) := (congrFun eh27 _).trans hup_s
  have fr__2 : ∀ q : Nat, q ≠ r → h27 q = h q := fun q hq => (congrFun eh27 q).trans ((hup_n (by omega)).trans (fr__1 q hq))
  refine g_aload_n k rfl dX10_tells_28 ?_
  refine g_iconst k dX10_tells_29 ?_
  refine g_dup2 k rfl rfl dX10_tells_30 ?_
  refine g_iald k 1 hn__2 (by omega) (by omega) (by decide) dX10_tells_31 ?_
  rw [show (fu (fu (fu N (2 + φ.length) (k1 : Int)) (30 + φ.length) (x : Int)) (58 + φ.length) (y : Int)) 1 = (φ.length : Int) from (by rw [fu_n (by omega), fu_n (by omega), fu_n (by omega)]; exact hR.n)]
  refine g_iconst k dX10_tells_32 ?_
  refine g_iadd k dX10_tells_33 ?_
  refine g_iast k 1 hn__2 (by omega) (by omega) (by decide) dX10_tells_34 (fun h34 eh34 => ?_)
  have hn__3 : h34 r = some (ai G 86 (fu (fu (fu (fu N (2 + φ.length) (k1 : Int)) (30 + φ.length) (x : Int)) (58 + φ.length) (y : Int)) 1 ((φ.length : Int) + 1))) := (congrFun eh34 _).trans hup_s
  have fr__3 : ∀ q : Nat, q ≠ r → h34 q = h q := fun q hq => (congrFun eh34 q).trans ((hup_n (by omega)).trans (fr__2 q hq))
  rw [← hQQ]
  refine g_retv k rfl dX10_tells_35 ?_
  exact ⟨⟨_, hn__3, hR.add hl⟩, fr__3⟩

theorem rF_s {n i x : Nat} (h : i < n) : rF (n - i) i x = sm1 (rF (n - (i + 1)) (i + 1)) (i + 1 - x) x := by
  rw [show n - i = n - (i + 1) + 1 by omega, rF]
theorem sm1_s {f : Nat → Nat} {i x : Nat} (h : x ≤ i) : sm1 f (i + 1 - x) x = f x + sm1 f (i + 1 - (x + 1)) (x + 1) := by
  rw [show i + 1 - x = i + 1 - (x + 1) + 1 by omega, sm1]
set_option maxHeartbeats 600000 in
set_option maxRecDepth 100000 in
theorem c_X10_make {G : Gx} {h : Hp} {nx m : Nat} {it : Nat} {φ : Fs} {ps : List (Nat × Fs)} {im : Nat → Option (Nat × Fs)} {V : RV} {n : Nat} {T : Nat → Int} {ft : Nat} (hM : MS G h m it φ ps im V n T ft) (hS : Sm it φ) (hps : PsO ps) {p p2 : Int} (rp : -2147483648 ≤ p ∧ p ≤ 2147483647) (rp2 : -2147483648 ≤ p2 ∧ p2 ≤ 2147483647) : Con G yX10_make cX10_make 7 (some .int) 12 0 0 [.ref m, vi p, vi p2] h nx (PI fun z h' => z = (mkT it φ ps p p2).1 ∧ MT G h' m 0 (mkT it φ ps p p2).2.1 (mkT it φ ps p p2).2.2.1 (mkT it φ ps p p2).2.2.2 im V n T ft ∧ ∀ q : Nat, (q < m ∨ m + 17 < q) → h' q = h q) := by
  obtain ⟨th, s, ⟨hm, cq1, cq2, cq3, cq4, cq5, cq6, cq7, cq8, cq9, cq10, cq11, cq12, cq13, cq14, cq15, cq16, cq17⟩, hsc, hth⟩ := hM
  obtain ⟨z1, z6, z9, z14, z17, z15, z16⟩ := id hsc
  obtain ⟨N, hn, hR⟩ := id cq2
  obtain ⟨Ns, hs5, hsr5⟩ := id cq5
  obtain ⟨Sr, hsr⟩ := id cq17
  obtain ⟨h8, h28, hsm⟩ := id hS
  refine Con.of v_X10_make.2.2.2.2.2.1 (Nat.le_of_ble_eq_true rfl) (lv := [(0, .ref m), (1, vi p), (2, vi p2)]) rfl (fun X k => ?_)
  generalize hQQ : QM G X nx 0 0 _ = QQ
  have fr0 : ∀ q : Nat, (q ≠ m ∧ q ≠ m + 2 ∧ q ≠ m + 5 ∧ q ≠ m + 17) → h q = h q := fun _ _ => rfl
  refine g_aload_n k rfl dX10_make_0 ?_
  refine g_iconst k dX10_make_1 ?_
  refine g_put k 10 0 (C := RX10) (T := TX10) (N := 38) fl_X10_1 rfl wi_X10 tyX10 tyX10_ok nmX10 (by decide) rfl rfl rfl rfl hm (Nat.le_of_ble_eq_true rfl) (fs2 := mol m (fu s 0 0)) rfl rfl dX10_make_2 (fun h2 eh2 => ?_)
  have hm_ : h2 m = some (mo m (fu s 0 0)) := (congrFun eh2 _).trans hup_s
  have hn_ : h2 (m + 2) = some (ai G 86 N) := (congrFun eh2 _).trans ((hup_n (by omega)).trans hn)
  have hs5_ : h2 (m + 5) = some (ai G 688 Ns) := (congrFun eh2 _).trans ((hup_n (by omega)).trans hs5)
  have hsr_ : h2 (m + 17) = some (ai G 8 Sr) := (congrFun eh2 _).trans ((hup_n (by omega)).trans hsr)
  have fr_ : ∀ q : Nat, (q ≠ m ∧ q ≠ m + 2 ∧ q ≠ m + 5 ∧ q ≠ m + 17) → h2 q = h q := fun q hq => (congrFun eh2 q).trans ((hup_n (by omega)).trans (fr0 q hq))
  refine g_iload_n k rfl dX10_make_5 ?_
  refine g_iconst k dX10_make_6 ?_
  refine g_bipush k rfl dX10_make_7 ?_
  refine g_cSi k (As := [vi p, vi 1, vi 8]) v_X10_isIn ml_X10_224 (c_X10_isIn rp (by omega) (by omega)) (by omega) (by omega) rfl (Nat.le_of_ble_eq_true rfl) rfl dX10_make_9 (fun r9 h9 p9 => ?_)
  obtain ⟨eh9, p9⟩ := p9
  have eh9 := eh9.symm; subst eh9
  have q9 := p9
  have q9r := q9.r
  refine g_if_eq k (tgt := 29) (by omega) dX10_make_12 (by decide) (fun c12 => ?_) (fun c12 => ?_)
  · skip
    refine g_iconst k dX10_make_29 ?_
    rw [← hQQ]
    refine g_ireti k rfl dX10_make_30 ?_
    have e : mkT it φ ps p p2 = (-1, it, φ, ps) := by unfold mkT; rw [if_neg (fun g => by first | omega | exact q9.f (by omega) (by omega) | (have g2 := g.2.2.2; rw [en1, Int.toNat_natCast] at g2; omega))]
    rw [e]
    exact ⟨rfl, ⟨_, ⟨hm_, ((fr_ (m + 1) (by omega)).trans cq1), ⟨N, hn_, hR⟩, (by rw [fr_ (m + 3) (by omega)]; exact cq3), (by rw [fr_ (m + 4) (by omega)]; exact cq4), ⟨Ns, hs5_, hsr5⟩, (by rw [fr_ (m + 6) (by omega)]; exact cq6), (by rw [fr_ (m + 7) (by omega)]; exact cq7), (by rw [fr_ (m + 8) (by omega)]; exact cq8), (by rw [fr_ (m + 9) (by omega)]; exact cq9), (by rw [fr_ (m + 10) (by omega)]; exact cq10), (by rw [fr_ (m + 11) (by omega)]; exact cq11), (by rw [fr_ (m + 12) (by omega)]; exact cq12), (by rw [fr_ (m + 13) (by omega)]; exact cq13), (by rw [fr_ (m + 14) (by omega)]; exact cq14), (by rw [fr_ (m + 15) (by omega)]; exact cq15), (by rw [fr_ (m + 16) (by omega)]; exact cq16), ⟨_, hsr_⟩⟩, hsc, rfl⟩, (fun q hq => fr_ q (by omega))⟩
  · skip
    have hh := q9.t (by omega)
    obtain ⟨n1, en1⟩ : ∃ n1 : Nat, p = n1 := ⟨p.toNat, by omega⟩
    have hn1 : 1 ≤ n1 ∧ n1 ≤ 8 := by omega
    rw [en1]
    have hrl : rF n1 0 0 ≤ 8 ^ n1 := rF_le n1 0 0 (by omega)
    have hrl2 := p88 (m := n1) (by omega)
    refine g_iload_n k rfl dX10_make_15 ?_
    refine g_if_lt k (tgt := 29) (by omega) dX10_make_16 (by decide) (fun c16 => ?_) (fun c16 => ?_)
    · skip
      refine g_iconst k dX10_make_29 ?_
      rw [← hQQ]
      refine g_ireti k rfl dX10_make_30 ?_
      have e : mkT it φ ps p p2 = (-1, it, φ, ps) := by unfold mkT; rw [if_neg (fun g => by first | omega | exact q9.f (by omega) (by omega) | (have g2 := g.2.2.2; rw [en1, Int.toNat_natCast] at g2; omega))]
      rw [e]
      exact ⟨rfl, ⟨_, ⟨hm_, ((fr_ (m + 1) (by omega)).trans cq1), ⟨N, hn_, hR⟩, (by rw [fr_ (m + 3) (by omega)]; exact cq3), (by rw [fr_ (m + 4) (by omega)]; exact cq4), ⟨Ns, hs5_, hsr5⟩, (by rw [fr_ (m + 6) (by omega)]; exact cq6), (by rw [fr_ (m + 7) (by omega)]; exact cq7), (by rw [fr_ (m + 8) (by omega)]; exact cq8), (by rw [fr_ (m + 9) (by omega)]; exact cq9), (by rw [fr_ (m + 10) (by omega)]; exact cq10), (by rw [fr_ (m + 11) (by omega)]; exact cq11), (by rw [fr_ (m + 12) (by omega)]; exact cq12), (by rw [fr_ (m + 13) (by omega)]; exact cq13), (by rw [fr_ (m + 14) (by omega)]; exact cq14), (by rw [fr_ (m + 15) (by omega)]; exact cq15), (by rw [fr_ (m + 16) (by omega)]; exact cq16), ⟨_, hsr_⟩⟩, hsc, rfl⟩, (fun q hq => fr_ q (by omega))⟩
    · skip
      obtain ⟨r1, er1⟩ : ∃ r1 : Nat, p2 = r1 := ⟨p2.toNat, by omega⟩
      rw [er1]
      refine g_iload_n k rfl dX10_make_19 ?_
      refine g_iconst k dX10_make_20 ?_
      refine g_iconst k dX10_make_21 ?_
      refine g_iload_n k rfl dX10_make_22 ?_
      refine g_cSi k (As := [vi 0, vi 0, vi (n1 : Int)]) v_X10_rowsFrom ml_X10_319 (c_rowsFrom n1 h2 nx 0 0 n1 (by omega) (by omega) (by omega)) (by omega) (by omega) rfl (Nat.le_of_ble_eq_true rfl) rfl dX10_make_23 (fun r23 h23 p23 => ?_)
      obtain ⟨eh23, p23⟩ := p23
      have eh23 := eh23.symm; subst eh23
      subst p23
      refine g_icmp_lt k (tgt := 31) (by omega) (by omega) dX10_make_26 (by decide) (fun c26 => ?_) (fun c26 => ?_)
      · skip
        refine g_iload_n k rfl dX10_make_31 ?_
        refine g_istore_n k (lv2 := [(0, .ref m), (1, vi (n1 : Int)), (2, vi (r1 : Int)), (3, vi (r1 : Int))]) (by decide) rfl rfl dX10_make_32 ?_
        refine g_iconst k dX10_make_33 ?_
        refine g_istore k (lv2 := [(0, .ref m), (1, vi (n1 : Int)), (2, vi (r1 : Int)), (3, vi (r1 : Int)), (4, vi 0)]) (by decide) rfl rfl dX10_make_34 ?_
        refine g_iconst k dX10_make_36 ?_
        refine g_istore k (lv2 := [(0, .ref m), (1, vi (n1 : Int)), (2, vi (r1 : Int)), (3, vi (r1 : Int)), (4, vi 0), (5, vi 0)]) (by decide) rfl rfl dX10_make_37 ?_
        have K39 : ∀ (nz : Nat) (i : Nat) (Z2 : Nat → Int) (h39 : Hp) (hm__1 : h39 m = some (mo m (fu s 0 0))) (hn__1 : h39 (m + 2) = some (ai G 86 N)) (hs5__1 : h39 (m + 5) = some (ai G 688 Ns)) (hsr__1 : h39 (m + 17) = some (ai G 8 Z2)) (fr__1 : ∀ q : Nat, (q ≠ m ∧ q ≠ m + 2 ∧ q ≠ m + 5 ∧ q ≠ m + 17) → h39 q = h q) (hi : i ≤ n1) (hz : ∀ j, j < i → Z2 j = spl n1 r1 j) (hlt : (spS n1 r1 i).1 < rF (n1 - i) i (spS n1 r1 i).2) (hmz : n1 - i < nz), Go G X 7 QQ 0 0 nx 39 [(0, .ref m), (1, vi (n1 : Int)), (2, vi (r1 : Int)), (3, vi ((spS n1 r1 i).1 : Int)), (4, vi ((spS n1 r1 i).2 : Int)), (5, vi (i : Int))] [] h39 := by
          intro nz
          induction nz with
          | zero => intro i Z2 h39 hm__1 hn__1 hs5__1 hsr__1 fr__1 hi hz hlt hmz; exact absurd hmz (Nat.not_lt_zero _)
          | succ nz ih39 =>
            intro i Z2 h39 hm__1 hn__1 hs5__1 hsr__1 fr__1 hi hz hlt hmz
            refine g_iload k rfl dX10_make_39 ?_
            refine g_iload_n k rfl dX10_make_41 ?_
            refine g_icmp_ge k (tgt := 93) (by omega) (by omega) dX10_make_42 (by decide) (fun c42 => ?_) (fun c42 => ?_)
            · skip
              skip
              refine g_aload_n k rfl dX10_make_93 ?_
              refine g_cVv k 10 (As := []) v_X10_snap rfl rfl hm__1 ml_X10_250 (c_X10_snap hm__1 hn__1 hR hS ⟨Ns, hs5__1, hsr5⟩ hps z9) (by omega) (by omega) rfl (Nat.le_of_ble_eq_true rfl) rfl dX10_make_94 (fun h94 p94 => ?_)
              obtain ⟨⟨nm3, ⟨Ns3, ns, hns⟩⟩, nfr3⟩ := p94
              have hm__2 : h94 m = some (mo m (fu (fu s 0 0) 9 ((psh ps (it, φ)).length : Int))) := nm3
              have hn__2 : h94 (m + 2) = some (ai G 86 N) := (nfr3 _ (by omega)).trans hn__1
              have hs5__2 : h94 (m + 5) = some (ai G 688 Ns3) := ns
              have hsr__2 : h94 (m + 17) = some (ai G 8 Z2) := (nfr3 _ (by omega)).trans hsr__1
              have fr__2 : ∀ q : Nat, (q ≠ m ∧ q ≠ m + 2 ∧ q ≠ m + 5 ∧ q ≠ m + 17) → h94 q = h q := fun q hq => (nfr3 q (by omega)).trans (fr__1 q hq)
              refine g_iconst k dX10_make_97 ?_
              refine g_istore k (lv2 := [(0, .ref m), (1, vi (n1 : Int)), (2, vi (r1 : Int)), (3, vi ((spS n1 r1 i).1 : Int)), (4, vi ((spS n1 r1 i).2 : Int)), (5, vi 0)]) (by decide) rfl rfl dX10_make_98 ?_
              have K100 : ∀ (nz_1 : Nat) (j1 : Nat) (N1 : Nat → Int) (h100 : Hp) (hm__3 : h100 m = some (mo m (fu (fu s 0 0) 9 ((psh ps (it, φ)).length : Int)))) (hn__3 : h100 (m + 2) = some (ai G 86 N1)) (hs5__3 : h100 (m + 5) = some (ai G 688 Ns3)) (hsr__3 : h100 (m + 17) = some (ai G 8 Z2)) (fr__3 : ∀ q : Nat, (q ≠ m ∧ q ≠ m + 2 ∧ q ≠ m + 5 ∧ q ≠ m + 17) → h100 q = h q) (hj1 : j1 ≤ 86) (hN1 : ∀ j, j < j1 → N1 j = 0) (hmz_1 : 86 - j1 < nz_1), Go G X 7 QQ 0 0 nx 100 [(0, .ref m), (1, vi (n1 : Int)), (2, vi (r1 : Int)), (5, vi (j1 : Int))] [] h100 := by
                intro nz_1
                induction nz_1 with
                | zero => intro j1 N1 h100 hm__3 hn__3 hs5__3 hsr__3 fr__3 hj1 hN1 hmz_1; exact absurd hmz_1 (Nat.not_lt_zero _)
                | succ nz_1 ih100 =>
                  intro j1 N1 h100 hm__3 hn__3 hs5__3 hsr__3 fr__3 hj1 hN1 hmz_1
                  refine g_iload k rfl dX10_make_100 ?_
                  refine g_bipush k rfl dX10_make_102 ?_
                  refine g_icmp_ge k (tgt := 121) (by omega) (by omega) dX10_make_104 (by decide) (fun c104 => ?_) (fun c104 => ?_)
                  · skip
                    refine g_aload_n k rfl dX10_make_121 ?_
                    refine g_get k 10 10 (v := .ref (m + 2)) (C := RX10) (T := TX10) (N := 38) fl_X10_74 rfl wi_X10 (by decide) rfl hm__3 rfl dX10_make_122 ?_
                    refine g_iconst k dX10_make_125 ?_
                    refine g_iload_n k rfl dX10_make_126 ?_
                    refine g_iast k 0 hn__3 (by omega) (by omega) (by decide) dX10_make_127 (fun h127 eh127 => ?_)
                    have hm__4 : h127 m = some (mo m (fu (fu s 0 0) 9 ((psh ps (it, φ)).length : Int))) := (congrFun eh127 _).trans ((hup_n (by omega)).trans hm__3)
                    have hn__4 : h127 (m + 2) = some (ai G 86 (fu N1 0 (n1 : Int))) := (congrFun eh127 _).trans hup_s
                    have hs5__4 : h127 (m + 5) = some (ai G 688 Ns3) := (congrFun eh127 _).trans ((hup_n (by omega)).trans hs5__3)
                    have hsr__4 : h127 (m + 17) = some (ai G 8 Z2) := (congrFun eh127 _).trans ((hup_n (by omega)).trans hsr__3)
                    have fr__4 : ∀ q : Nat, (q ≠ m ∧ q ≠ m + 2 ∧ q ≠ m + 5 ∧ q ≠ m + 17) → h127 q = h q := fun q hq => (congrFun eh127 q).trans ((hup_n (by omega)).trans (fr__3 q hq))
                    refine g_iconst k dX10_make_128 ?_
                    refine g_istore k (lv2 := [(0, .ref m), (1, vi (n1 : Int)), (2, vi (r1 : Int)), (5, vi 0)]) (by decide) rfl rfl dX10_make_129 ?_
                    have K131 : ∀ (nz_2 : Nat) (a : Nat) (N4 : Nat → Int) (h131 : Hp) (hm__5 : h131 m = some (mo m (fu (fu s 0 0) 9 ((psh ps (it, φ)).length : Int)))) (hn__5 : h131 (m + 2) = some (ai G 86 N4)) (hs5__5 : h131 (m + 5) = some (ai G 688 Ns3)) (hsr__5 : h131 (m + 17) = some (ai G 8 Z2)) (fr__5 : ∀ q : Nat, (q ≠ m ∧ q ≠ m + 2 ∧ q ≠ m + 5 ∧ q ≠ m + 17) → h131 q = h q) (ha : a ≤ n1) (hR4 : Rw N4 n1 (mkO (spl n1 r1) n1 a)) (hmz_2 : n1 - a < nz_2), Go G X 7 QQ 0 0 nx 131 [(0, .ref m), (1, vi (n1 : Int)), (2, vi (r1 : Int)), (5, vi (a : Int))] [] h131 := by
                      intro nz_2
                      induction nz_2 with
                      | zero => intro a N4 h131 hm__5 hn__5 hs5__5 hsr__5 fr__5 ha hR4 hmz_2; exact absurd hmz_2 (Nat.not_lt_zero _)
                      | succ nz_2 ih131 =>
                        intro a N4 h131 hm__5 hn__5 hs5__5 hsr__5 fr__5 ha hR4 hmz_2
                        refine g_iload k rfl dX10_make_131 ?_
                        refine g_iload_n k rfl dX10_make_133 ?_
                        refine g_icmp_ge k (tgt := 189) (by omega) (by omega) dX10_make_134 (by decide) (fun c134 => ?_) (fun c134 => ?_)
                        · skip
                          have ea : a = n1 := by omega
                          rw [ea] at hR4
                          refine g_aload_n k rfl dX10_make_189 ?_
                          refine g_cVi k 10 (As := []) v_X10_facts rfl rfl hm__5 ml_X10_237 (c1_X10_facts hm__5 hn__5 (l1 := (mkO (spl n1 r1) n1 n1).length) hR4.n) (by omega) (by omega) rfl (Nat.le_of_ble_eq_true rfl) rfl dX10_make_190 (fun r190 h190 p190 => ?_)
                          obtain ⟨eh190, p190⟩ := p190
                          have eh190 := eh190.symm; subst eh190
                          subst p190
                          rw [← hQQ]
                          refine g_ireti k rfl dX10_make_193 ?_
                          have e : mkT it φ ps p p2 = ((((mkO (spl n1 r1) n1 n1).length : Nat) : Int), n1, mkO (spl n1 r1) n1 n1, psh ps (it, φ)) := by unfold mkT; rw [if_pos ⟨by omega, by omega, by omega, by rw [en1, Int.toNat_natCast]; omega⟩, en1, er1, Int.toNat_natCast, Int.toNat_natCast]
                          rw [e]
                          exact ⟨rfl, ⟨_, ⟨hm__5, ((fr__5 (m + 1) (by omega)).trans cq1), ⟨N4, hn__5, hR4⟩, (by rw [fr__5 (m + 3) (by omega)]; exact cq3), (by rw [fr__5 (m + 4) (by omega)]; exact cq4), ⟨Ns3, hs5__5, hns⟩, (by rw [fr__5 (m + 6) (by omega)]; exact cq6), (by rw [fr__5 (m + 7) (by omega)]; exact cq7), (by rw [fr__5 (m + 8) (by omega)]; exact cq8), (by rw [fr__5 (m + 9) (by omega)]; exact cq9), (by rw [fr__5 (m + 10) (by omega)]; exact cq10), (by rw [fr__5 (m + 11) (by omega)]; exact cq11), (by rw [fr__5 (m + 12) (by omega)]; exact cq12), (by rw [fr__5 (m + 13) (by omega)]; exact cq13), (by rw [fr__5 (m + 14) (by omega)]; exact cq14), (by rw [fr__5 (m + 15) (by omega)]; exact cq15), (by rw [fr__5 (m + 16) (by omega)]; exact cq16), ⟨_, hsr__5⟩⟩, ⟨z1, z6, rfl, z14, z17, z15, z16⟩, rfl⟩, (fun q hq => fr__5 q (by omega))⟩
                        · skip
                          refine g_iload k rfl dX10_make_137 ?_
                          refine g_iconst k dX10_make_139 ?_
                          refine g_iadd k dX10_make_140 ?_
                          refine g_istore k (lv2 := [(0, .ref m), (1, vi (n1 : Int)), (2, vi (r1 : Int)), (5, vi (a : Int)), (6, vi ((a : Int) + 1))]) (by decide) rfl rfl dX10_make_141 ?_
                          have K143 : ∀ (nz_3 : Nat) (c : Nat) (N5 : Nat → Int) (h143 : Hp) (hm__6 : h143 m = some (mo m (fu (fu s 0 0) 9 ((psh ps (it, φ)).length : Int)))) (hn__6 : h143 (m + 2) = some (ai G 86 N5)) (hs5__6 : h143 (m + 5) = some (ai G 688 Ns3)) (hsr__6 : h143 (m + 17) = some (ai G 8 Z2)) (fr__6 : ∀ q : Nat, (q ≠ m ∧ q ≠ m + 2 ∧ q ≠ m + 5 ∧ q ≠ m + 17) → h143 q = h q) (hc : c ≤ n1 - (a + 1)) (hR5 : Rw N5 n1 (mkO (spl n1 r1) n1 a ++ mkI (spl n1 r1) a c)) (hmz_3 : n1 - (a + 1) - c < nz_3), Go G X 7 QQ 0 0 nx 143 [(0, .ref m), (1, vi (n1 : Int)), (2, vi (r1 : Int)), (5, vi (a : Int)), (6, vi ((a + 1 + c : Nat) : Int))] [] h143 := by
                            intro nz_3
                            induction nz_3 with
                            | zero => intro c N5 h143 hm__6 hn__6 hs5__6 hsr__6 fr__6 hc hR5 hmz_3; exact absurd hmz_3 (Nat.not_lt_zero _)
                            | succ nz_3 ih143 =>
                              intro c N5 h143 hm__6 hn__6 hs5__6 hsr__6 fr__6 hc hR5 hmz_3
                              refine g_iload k rfl dX10_make_143 ?_
                              refine g_iload_n k rfl dX10_make_145 ?_
                              refine g_icmp_ge k (tgt := 183) (by omega) (by omega) dX10_make_146 (by decide) (fun c146 => ?_) (fun c146 => ?_)
                              · skip
                                refine g_iinc k (lv2 := [(0, .ref m), (1, vi (n1 : Int)), (2, vi (r1 : Int)), (5, vi ((a : Int) + 1)), (6, vi ((a + 1 + c : Nat) : Int))]) rfl (by decide) rfl rfl dX10_make_183 ?_
                                refine g_goto k (tgt := 131) dX10_make_186 (by decide) ?_
                                refine g_less (lv2 := [(0, .ref m), (1, vi (n1 : Int)), (2, vi (r1 : Int)), (5, vi ((a : Int) + 1))]) ⟨rfl, rfl, rfl, rfl, trivial⟩ ?_
                                exact ih131 (a + 1) _ h143 hm__6 hn__6 hs5__6 hsr__6 fr__6 (by omega) (by rw [mkO, show n1 - (a + 1) = c by omega]; exact hR5) (by omega)
                              · skip
                                have hcm := cmF_b n1 (by omega) a (by omega) c (by omega)
                                have hml : (mkO (spl n1 r1) n1 a ++ mkI (spl n1 r1) a c).length = cmF n1 a + c := by rw [List.length_append, mkO_len, mkI_len]
                                have hspl := @spl_le n1 r1 (a + 1 + c)
                                refine g_aload_n k rfl dX10_make_149 ?_
                                refine g_get k 10 10 (v := .ref (m + 2)) (C := RX10) (T := TX10) (N := 38) fl_X10_74 rfl wi_X10 (by decide) rfl hm__6 rfl dX10_make_150 ?_
                                have K170 : ∀ (kz : Nat) (hkz : kz = (if a < spl n1 r1 (a + 1 + c) then 0 else 1)), Go G X 7 QQ 0 0 nx 170 [(0, .ref m), (1, vi (n1 : Int)), (2, vi (r1 : Int)), (5, vi (a : Int)), (6, vi ((a + 1 + c : Nat) : Int))] [vi (kz : Int), .ref (m + 2)] h143 := by
                                  intro kz hkz
                                  refine g_iload k rfl dX10_make_170 ?_
                                  refine g_iload k rfl dX10_make_172 ?_
                                  refine g_cSv k (As := [.ref (m + 2), vi (kz : Int), vi (a : Int), vi ((a + 1 + c : Nat) : Int)]) v_X10_tells ml_X10_153 (c1_X10_tells hn__6 hR5 (by omega) (k1 := kz) (x := a) (y := a + 1 + c)) (by omega) (by omega) rfl (Nat.le_of_ble_eq_true rfl) rfl dX10_make_174 (fun h174 p174 => ?_)
                                  obtain ⟨⟨N7, nn7, hR7⟩, nfr7⟩ := p174
                                  have hm__7 : h174 m = some (mo m (fu (fu s 0 0) 9 ((psh ps (it, φ)).length : Int))) := (nfr7 _ (by omega)).trans hm__6
                                  have hn__7 : h174 (m + 2) = some (ai G 86 N7) := nn7
                                  have hs5__7 : h174 (m + 5) = some (ai G 688 Ns3) := (nfr7 _ (by omega)).trans hs5__6
                                  have hsr__7 : h174 (m + 17) = some (ai G 8 Z2) := (nfr7 _ (by omega)).trans hsr__6
                                  have fr__7 : ∀ q : Nat, (q ≠ m ∧ q ≠ m + 2 ∧ q ≠ m + 5 ∧ q ≠ m + 17) → h174 q = h q := fun q hq => (nfr7 q (by omega)).trans (fr__6 q hq)
                                  refine g_iinc k (lv2 := [(0, .ref m), (1, vi (n1 : Int)), (2, vi (r1 : Int)), (5, vi (a : Int)), (6, vi (((a + 1 + c : Nat) : Int) + 1))]) rfl (by decide) rfl rfl dX10_make_177 ?_
                                  refine g_goto k (tgt := 143) dX10_make_180 (by decide) ?_
                                  exact ih143 (c + 1) _ h174 hm__7 hn__7 hs5__7 hsr__7 fr__7 (by omega) (by rw [mkI, ← List.append_assoc, ← hkz]; exact hR7) (by omega)
                                refine g_iload k rfl dX10_make_153 ?_
                                refine g_aload_n k rfl dX10_make_155 ?_
                                refine g_get k 10 36 (v := .ref (m + 17)) (C := RX10) (T := TX10) (N := 38) fl_X10_124 rfl wi_X10 (by decide) rfl hm__6 rfl dX10_make_156 ?_
                                refine g_iload k rfl dX10_make_159 ?_
                                refine g_iald k (a + 1 + c) hsr__6 (by omega) (by omega) (by decide) dX10_make_161 ?_
                                rw [show Z2 (a + 1 + c) = (spl n1 r1 (a + 1 + c) : Int) from hz _ (by omega)]
                                refine g_icmp_ge k (tgt := 169) (by omega) (by omega) dX10_make_162 (by decide) (fun c162 => ?_) (fun c162 => ?_)
                                · skip
                                  refine g_iconst k dX10_make_169 ?_
                                  exact K170 1 (by rw [if_neg (by omega)])
                                · skip
                                  refine g_iconst k dX10_make_165 ?_
                                  refine g_goto k (tgt := 170) dX10_make_166 (by decide) ?_
                                  exact K170 0 (by rw [if_pos (by omega)])
                          exact K143 _ 0 _ h131 hm__5 hn__5 hs5__5 hsr__5 fr__5 (Nat.zero_le _) (by rw [mkI, List.append_nil]; exact hR4) (Nat.lt_succ_self _)
                    exact K131 _ 0 _ h127 hm__4 hn__4 hs5__4 hsr__4 fr__4 (Nat.zero_le _) ⟨fu_s, by rw [fu_n (by omega), hN1 1 (by omega)]; rfl, fun i hi => absurd hi (Nat.not_lt_zero i)⟩ (Nat.lt_succ_self _)
                  · skip
                    refine g_aload_n k rfl dX10_make_107 ?_
                    refine g_get k 10 10 (v := .ref (m + 2)) (C := RX10) (T := TX10) (N := 38) fl_X10_74 rfl wi_X10 (by decide) rfl hm__3 rfl dX10_make_108 ?_
                    refine g_iload k rfl dX10_make_111 ?_
                    refine g_iconst k dX10_make_113 ?_
                    refine g_iast k j1 hn__3 (by omega) (by omega) (by decide) dX10_make_114 (fun h114 eh114 => ?_)
                    have hm__8 : h114 m = some (mo m (fu (fu s 0 0) 9 ((psh ps (it, φ)).length : Int))) := (congrFun eh114 _).trans ((hup_n (by omega)).trans hm__3)
                    have hn__8 : h114 (m + 2) = some (ai G 86 (fu N1 j1 0)) := (congrFun eh114 _).trans hup_s
                    have hs5__8 : h114 (m + 5) = some (ai G 688 Ns3) := (congrFun eh114 _).trans ((hup_n (by omega)).trans hs5__3)
                    have hsr__8 : h114 (m + 17) = some (ai G 8 Z2) := (congrFun eh114 _).trans ((hup_n (by omega)).trans hsr__3)
                    have fr__8 : ∀ q : Nat, (q ≠ m ∧ q ≠ m + 2 ∧ q ≠ m + 5 ∧ q ≠ m + 17) → h114 q = h q := fun q hq => (congrFun eh114 q).trans ((hup_n (by omega)).trans (fr__3 q hq))
                    refine g_iinc k (lv2 := [(0, .ref m), (1, vi (n1 : Int)), (2, vi (r1 : Int)), (5, vi ((j1 : Int) + 1))]) rfl (by decide) rfl rfl dX10_make_115 ?_
                    refine g_goto k (tgt := 100) dX10_make_118 (by decide) ?_
                    exact ih100 (j1 + 1) _ h114 hm__8 hn__8 hs5__8 hsr__8 fr__8 (by omega) (lt_s2 (fun j hj => (fu_n (by omega)).trans (hN1 j hj)) fu_s) (by omega)
              refine g_less (lv2 := [(0, .ref m), (1, vi (n1 : Int)), (2, vi (r1 : Int)), (5, vi 0)]) ⟨rfl, rfl, rfl, rfl, trivial⟩ ?_
              exact K100 _ 0 _ h94 hm__2 hn__2 hs5__2 hsr__2 fr__2 (Nat.zero_le _) (fun j hj => absurd hj (Nat.not_lt_zero j)) (Nat.lt_succ_self _)
            · skip
              have hsb := spS_b (n := n1) (r := r1) i
              have hle : ∀ x, rF (n1 - (i + 1)) (i + 1) x ≤ 16777216 := fun x => Nat.le_trans (rF_le (n1 - (i + 1)) (i + 1) x (by omega)) (p88 (by omega))
              have K45 : ∀ (nz_5 : Nat) (k9 : Nat) (l : Nat) (x : Nat) (hx : x ≤ i) (hl : l ≤ r1) (hk : i < k9 + x) (hs : spX n1 i k9 l x = spS n1 r1 (i + 1)) (hl2 : l < sm1 (rF (n1 - (i + 1)) (i + 1)) (i + 1 - x) x) (hmz_5 : i + 1 - x < nz_5), Go G X 7 QQ 0 0 nx 45 [(0, .ref m), (1, vi (n1 : Int)), (2, vi (r1 : Int)), (3, vi (l : Int)), (4, vi (x : Int)), (5, vi (i : Int))] [] h39 := by
                intro nz_5
                induction nz_5 with
                | zero => intro k9 l x hx hl hk hs hl2 hmz_5; exact absurd hmz_5 (Nat.not_lt_zero _)
                | succ nz_5 ih45 =>
                  intro k9 l x hx hl hk hs hl2 hmz_5
                  refine g_iload_n k rfl dX10_make_45 ?_
                  refine g_iload k rfl dX10_make_46 ?_
                  refine g_iconst k dX10_make_48 ?_
                  refine g_iadd k dX10_make_49 ?_
                  refine g_iload k rfl dX10_make_50 ?_
                  refine g_iload_n k rfl dX10_make_52 ?_
                  have hlex0 := hle x
                  refine g_cSi k (As := [vi ((i : Int) + 1), vi (x : Int), vi (n1 : Int)]) v_X10_rowsFrom ml_X10_319 (c_rowsFrom (n1 - (i + 1)) h39 nx (i + 1) x n1 (by omega) (by omega) (by omega)) (by omega) (by omega) rfl (Nat.le_of_ble_eq_true rfl) rfl dX10_make_53 (fun r53 h53 p53 => ?_)
                  obtain ⟨eh53, p53⟩ := p53
                  have eh53 := eh53.symm; subst eh53
                  subst p53
                  refine g_icmp_lt k (tgt := 78) (by omega) (by omega) dX10_make_56 (by decide) (fun c56 => ?_) (fun c56 => ?_)
                  · skip
                    have hlx : l < rF (n1 - (i + 1)) (i + 1) x := by omega
                    have hk1 : k9 ≠ 0 := by omega
                    have es : (l, x) = spS n1 r1 (i + 1) := by rw [← hs, show k9 = k9 - 1 + 1 by omega, spX, if_neg (by omega)]
                    rw [show l = (spS n1 r1 (i + 1)).1 by rw [← es], show x = (spS n1 r1 (i + 1)).2 by rw [← es]]
                    refine g_aload_n k rfl dX10_make_78 ?_
                    refine g_get k 10 36 (v := .ref (m + 17)) (C := RX10) (T := TX10) (N := 38) fl_X10_124 rfl wi_X10 (by decide) rfl hm__1 rfl dX10_make_79 ?_
                    refine g_iload k rfl dX10_make_82 ?_
                    refine g_iload k rfl dX10_make_84 ?_
                    refine g_iast k i hsr__1 (by omega) (by omega) (by decide) dX10_make_86 (fun h86 eh86 => ?_)
                    have hm__9 : h86 m = some (mo m (fu s 0 0)) := (congrFun eh86 _).trans ((hup_n (by omega)).trans hm__1)
                    have hn__9 : h86 (m + 2) = some (ai G 86 N) := (congrFun eh86 _).trans ((hup_n (by omega)).trans hn__1)
                    have hs5__9 : h86 (m + 5) = some (ai G 688 Ns) := (congrFun eh86 _).trans ((hup_n (by omega)).trans hs5__1)
                    have hsr__9 : h86 (m + 17) = some (ai G 8 (fu Z2 i ((spS n1 r1 (i + 1)).2 : Int))) := (congrFun eh86 _).trans hup_s
                    have fr__9 : ∀ q : Nat, (q ≠ m ∧ q ≠ m + 2 ∧ q ≠ m + 5 ∧ q ≠ m + 17) → h86 q = h q := fun q hq => (congrFun eh86 q).trans ((hup_n (by omega)).trans (fr__1 q hq))
                    refine g_iinc k (lv2 := [(0, .ref m), (1, vi (n1 : Int)), (2, vi (r1 : Int)), (3, vi ((spS n1 r1 (i + 1)).1 : Int)), (4, vi ((spS n1 r1 (i + 1)).2 : Int)), (5, vi ((i : Int) + 1))]) rfl (by decide) rfl rfl dX10_make_87 ?_
                    refine g_goto k (tgt := 39) dX10_make_90 (by decide) ?_
                    exact ih39 (i + 1) _ h86 hm__9 hn__9 hs5__9 hsr__9 fr__9 (by omega) (lt_s2 (fun j hj => (fu_n (by omega)).trans (hz j hj)) fu_s) (by rw [← es]; exact hlx) (by omega)
                  · skip
                    have hxi : x < i := by
                      refine Nat.lt_of_le_of_ne hx (fun e => ?_)
                      rw [e, sm1_s (Nat.le_refl i), show i + 1 - (i + 1) = 0 by omega, sm1] at hl2
                      rw [e] at c56
                      omega
                    have hs2 := sm1_s (f := rF (n1 - (i + 1)) (i + 1)) hx
                    have hlex := hle x
                    refine g_iload_n k rfl dX10_make_59 ?_
                    refine g_iload k rfl dX10_make_60 ?_
                    refine g_iconst k dX10_make_62 ?_
                    refine g_iadd k dX10_make_63 ?_
                    refine g_iload k rfl dX10_make_64 ?_
                    refine g_iload_n k rfl dX10_make_66 ?_
                    refine g_cSi k (As := [vi ((i : Int) + 1), vi (x : Int), vi (n1 : Int)]) v_X10_rowsFrom ml_X10_319 (c_rowsFrom (n1 - (i + 1)) h39 nx (i + 1) x n1 (by omega) (by omega) (by omega)) (by omega) (by omega) rfl (Nat.le_of_ble_eq_true rfl) rfl dX10_make_67 (fun r67 h67 p67 => ?_)
                    obtain ⟨eh67, p67⟩ := p67
                    have eh67 := eh67.symm; subst eh67
                    subst p67
                    refine g_isub k dX10_make_70 ?_
                    refine g_istore_n k (lv2 := [(0, .ref m), (1, vi (n1 : Int)), (2, vi (r1 : Int)), (3, vi ((l : Int) - (rF (n1 - (i + 1)) (i + 1) x : Int))), (4, vi (x : Int)), (5, vi (i : Int))]) (by decide) rfl rfl dX10_make_71 ?_
                    refine g_iinc k (lv2 := [(0, .ref m), (1, vi (n1 : Int)), (2, vi (r1 : Int)), (3, vi ((l : Int) - (rF (n1 - (i + 1)) (i + 1) x : Int))), (4, vi ((x : Int) + 1)), (5, vi (i : Int))]) rfl (by decide) rfl rfl dX10_make_72 ?_
                    refine g_goto k (tgt := 45) dX10_make_75 (by decide) ?_
                    rw [show (l : Int) - (rF (n1 - (i + 1)) (i + 1) x : Int) = ((l - rF (n1 - (i + 1)) (i + 1) x : Nat) : Int) by omega]
                    exact ih45 (k9 - 1) (l - rF (n1 - (i + 1)) (i + 1) x) (x + 1) (by omega) (by omega) (by omega) (by rw [← hs, show k9 = k9 - 1 + 1 by omega, spX, if_pos ⟨by omega, by omega⟩]; rfl) (by omega) (by omega)
              exact K45 _ (i + 1) ((spS n1 r1 i).1) ((spS n1 r1 i).2) (by omega) (by omega) (by omega) rfl (by rw [← rF_s (by omega)]; exact hlt) (Nat.lt_succ_self _)
        exact K39 _ 0 _ h2 hm_ hn_ hs5_ hsr_ fr_ (Nat.zero_le _) (fun j hj => absurd hj (Nat.not_lt_zero j)) (show r1 < rF (n1 - 0) 0 0 by rw [Nat.sub_zero]; omega) (Nat.lt_succ_self _)
      · skip
        refine g_iconst k dX10_make_29 ?_
        rw [← hQQ]
        refine g_ireti k rfl dX10_make_30 ?_
        have e : mkT it φ ps p p2 = (-1, it, φ, ps) := by unfold mkT; rw [if_neg (fun g => by first | omega | exact q9.f (by omega) (by omega) | (have g2 := g.2.2.2; rw [en1, Int.toNat_natCast] at g2; omega))]
        rw [e]
        exact ⟨rfl, ⟨_, ⟨hm_, ((fr_ (m + 1) (by omega)).trans cq1), ⟨N, hn_, hR⟩, (by rw [fr_ (m + 3) (by omega)]; exact cq3), (by rw [fr_ (m + 4) (by omega)]; exact cq4), ⟨Ns, hs5_, hsr5⟩, (by rw [fr_ (m + 6) (by omega)]; exact cq6), (by rw [fr_ (m + 7) (by omega)]; exact cq7), (by rw [fr_ (m + 8) (by omega)]; exact cq8), (by rw [fr_ (m + 9) (by omega)]; exact cq9), (by rw [fr_ (m + 10) (by omega)]; exact cq10), (by rw [fr_ (m + 11) (by omega)]; exact cq11), (by rw [fr_ (m + 12) (by omega)]; exact cq12), (by rw [fr_ (m + 13) (by omega)]; exact cq13), (by rw [fr_ (m + 14) (by omega)]; exact cq14), (by rw [fr_ (m + 15) (by omega)]; exact cq15), (by rw [fr_ (m + 16) (by omega)]; exact cq16), ⟨_, hsr_⟩⟩, hsc, rfl⟩, (fun q hq => fr_ q (by omega))⟩

theorem fu_fu {s : Nat → Int} {i : Nat} {x y : Int} : fu (fu s i x) i y = fu s i y := by funext j; unfold fu; split <;> rfl
/-- facts that an item isn't of -/
def flt (i : Nat) (φ : Fs) : Fs := φ.filter fun q => !(decide (q.2.1 = i) || decide (q.2.2 = i))
def shf (i : Nat) (q : Nat × Nat × Nat) : Nat × Nat × Nat := (q.1, dI i q.2.1, dI i q.2.2)
theorem drp_map (i : Nat) : ∀ φ : Fs, drp i φ = (flt i φ).map (shf i)
  | [] => rfl
  | q :: t => by
    unfold flt
    rw [drp, List.filter_cons]
    by_cases e : q.2.1 = i ∨ q.2.2 = i
    · rw [if_pos e, if_neg (by simp; omega)]
      exact drp_map i t
    · rw [if_neg e, if_pos (by simp; omega), List.map_cons, drp_map i t]
      rfl
theorem drop_s {φ : Fs} {v : Nat} (h : v < φ.length) : φ.drop v = (kd φ v, fi φ v, se φ v) :: φ.drop (v + 1) := by
  rw [List.drop_eq_getElem_cons h]
  congr 1
  unfold kd fi se
  rw [List.getD_eq_getElem?_getD, List.getElem?_eq_getElem h, Option.getD_some]
theorem flt_y {i : Nat} {φ : Fs} {v : Nat} (h : v < φ.length) (hn : ¬ (fi φ v = i ∨ se φ v = i)) : φ.take v ++ flt i (φ.drop v) = φ.take (v + 1) ++ flt i (φ.drop (v + 1)) := by
  rw [drop_s h, take_s h]
  unfold flt
  rw [List.filter_cons, if_pos (by simp; omega), List.append_assoc]
  rfl
theorem flt_n {i : Nat} {φ : Fs} {v : Nat} (h : v < φ.length) (hn : fi φ v = i ∨ se φ v = i) : φ.take v ++ flt i (φ.drop v) = fgt (φ.take (v + 1) ++ flt i (φ.drop (v + 1))) v := by
  rw [drop_s h, take_s h]
  unfold flt fgt
  rw [List.filter_cons, if_neg (by simp; omega), List.append_assoc, List.eraseIdx_append_of_length_le (by rw [List.length_take]; omega)]
  have : v - (φ.take v).length = 0 := by simp; omega
  rw [this]
  rfl
theorem tk_at {φ ψ : Fs} {v i : Nat} (h : v ≤ φ.length) (hi : i < v) : kd (φ.take v ++ ψ) i = kd φ i ∧ fi (φ.take v ++ ψ) i = fi φ i ∧ se (φ.take v ++ ψ) i = se φ i := by
  have e : (φ.take v ++ ψ).getD i (0, 0, 0) = φ.getD i (0, 0, 0) := by
    rw [List.getD_eq_getElem?_getD, List.getD_eq_getElem?_getD, List.getElem?_append_left (by simp; omega), List.getElem?_take, if_pos hi]
  unfold kd fi se
  rw [e]
  exact ⟨rfl, rfl, rfl⟩
theorem map_at {φ : Fs} {i j : Nat} (h : j < φ.length) : kd (φ.map (shf i)) j = kd φ j ∧ fi (φ.map (shf i)) j = dI i (fi φ j) ∧ se (φ.map (shf i)) j = dI i (se φ j) := by
  unfold kd fi se
  rw [List.getD_eq_getElem?_getD, List.getD_eq_getElem?_getD, List.getElem?_map, List.getElem?_eq_getElem h]
  exact ⟨rfl, rfl, rfl⟩
set_option maxHeartbeats 600000 in
set_option maxRecDepth 100000 in
theorem c_X10_drop {G : Gx} {h : Hp} {nx m : Nat} {it : Nat} {φ : Fs} {ps : List (Nat × Fs)} {im : Nat → Option (Nat × Fs)} {V : RV} {n : Nat} {T : Nat → Int} {ft : Nat} (hM : MS G h m it φ ps im V n T ft) (hS : Sm it φ) (hps : PsO ps) {p : Int} (rp : -2147483648 ≤ p ∧ p ≤ 2147483647) : Con G yX10_drop cX10_drop 3 (some .int) 3 0 0 [.ref m, vi p] h nx (PI fun z h' => ((hasI it p → z = (it : Int) - 1) ∧ (¬ hasI it p → z = -1)) ∧ MT G h' m 0 (haveI := Classical.propDecidable (hasI it p); if hasI it p then it - 1 else it) (haveI := Classical.propDecidable (hasI it p); if hasI it p then drp p.toNat φ else φ) (haveI := Classical.propDecidable (hasI it p); if hasI it p then psh ps (it, φ) else ps) im V n T ft ∧ ∀ q : Nat, (q < m ∨ m + 17 < q) → h' q = h q) := by
  obtain ⟨th, s, ⟨hm, cq1, cq2, cq3, cq4, cq5, cq6, cq7, cq8, cq9, cq10, cq11, cq12, cq13, cq14, cq15, cq16, cq17⟩, hsc, hth⟩ := hM
  obtain ⟨z1, z6, z9, z14, z17, z15, z16⟩ := id hsc
  obtain ⟨N, hn, hR⟩ := id cq2
  obtain ⟨Ns, hs5, hsr5⟩ := id cq5
  obtain ⟨h8, h28, hsm⟩ := id hS
  refine Con.of v_X10_drop.2.2.2.2.2.1 (Nat.le_of_ble_eq_true rfl) (lv := [(0, .ref m), (1, vi p)]) rfl (fun X k => ?_)
  generalize hQQ : QM G X nx 0 0 _ = QQ
  have fr0 : ∀ q : Nat, (q ≠ m ∧ q ≠ m + 2 ∧ q ≠ m + 5) → h q = h q := fun _ _ => rfl
  refine g_aload_n k rfl dX10_drop_0 ?_
  refine g_iconst k dX10_drop_1 ?_
  refine g_put k 10 0 (C := RX10) (T := TX10) (N := 38) fl_X10_1 rfl wi_X10 tyX10 tyX10_ok nmX10 (by decide) rfl rfl rfl rfl hm (Nat.le_of_ble_eq_true rfl) (fs2 := mol m (fu s 0 0)) rfl rfl dX10_drop_2 (fun h2 eh2 => ?_)
  have hm_ : h2 m = some (mo m (fu s 0 0)) := (congrFun eh2 _).trans hup_s
  have hn_ : h2 (m + 2) = some (ai G 86 N) := (congrFun eh2 _).trans ((hup_n (by omega)).trans hn)
  have hs5_ : h2 (m + 5) = some (ai G 688 Ns) := (congrFun eh2 _).trans ((hup_n (by omega)).trans hs5)
  have fr_ : ∀ q : Nat, (q ≠ m ∧ q ≠ m + 2 ∧ q ≠ m + 5) → h2 q = h q := fun q hq => (congrFun eh2 q).trans ((hup_n (by omega)).trans (fr0 q hq))
  refine g_aload_n k rfl dX10_drop_5 ?_
  refine g_iload_n k rfl dX10_drop_6 ?_
  refine g_cVi k 10 (As := [vi p]) v_X10_isItem rfl rfl hm_ ml_X10_231 (c_X10_isItem hm_ hn_ hR hS rp) (by omega) (by omega) rfl (Nat.le_of_ble_eq_true rfl) rfl dX10_drop_7 (fun r7 h7 p7 => ?_)
  obtain ⟨eh7, p7⟩ := p7
  have eh7 := eh7.symm; subst eh7
  have q7 := p7
  have q7r := q7.r
  refine g_if_ne k (tgt := 15) (by omega) dX10_drop_10 (by decide) (fun c10 => ?_) (fun c10 => ?_)
  · skip
    have hh := q7.t (by omega)
    obtain ⟨i1, ei1, hi1⟩ := nat_of hh
    rw [ei1]
    refine g_aload_n k rfl dX10_drop_15 ?_
    refine g_cVv k 10 (As := []) v_X10_snap rfl rfl hm_ ml_X10_250 (c_X10_snap hm_ hn_ hR hS ⟨Ns, hs5_, hsr5⟩ hps z9) (by omega) (by omega) rfl (Nat.le_of_ble_eq_true rfl) rfl dX10_drop_16 (fun h16 p16 => ?_)
    obtain ⟨⟨nm3, ⟨Ns3, ns, hns⟩⟩, nfr3⟩ := p16
    have hm__1 : h16 m = some (mo m (fu (fu s 0 0) 9 ((psh ps (it, φ)).length : Int))) := nm3
    have hn__1 : h16 (m + 2) = some (ai G 86 N) := (nfr3 _ (by omega)).trans hn_
    have hs5__1 : h16 (m + 5) = some (ai G 688 Ns3) := ns
    have fr__1 : ∀ q : Nat, (q ≠ m ∧ q ≠ m + 2 ∧ q ≠ m + 5) → h16 q = h q := fun q hq => (nfr3 q (by omega)).trans (fr_ q hq)
    refine g_aload_n k rfl dX10_drop_19 ?_
    refine g_cVi k 10 (As := []) v_X10_facts rfl rfl hm__1 ml_X10_237 (c_X10_facts hm__1 hn__1 hR hS) (by omega) (by omega) rfl (Nat.le_of_ble_eq_true rfl) rfl dX10_drop_20 (fun r20 h20 p20 => ?_)
    obtain ⟨eh20, p20⟩ := p20
    have eh20 := eh20.symm; subst eh20
    subst p20
    refine g_iconst k dX10_drop_23 ?_
    refine g_isub k dX10_drop_24 ?_
    refine g_istore_n k (lv2 := [(0, .ref m), (1, vi (i1 : Int)), (2, vi ((φ.length : Int) - 1))]) (by decide) rfl rfl dX10_drop_25 ?_
    have K26 : ∀ (nz : Nat) (w : Nat) (N1 : Nat → Int) (h26 : Hp) (hm__2 : h26 m = some (mo m (fu (fu s 0 0) 9 ((psh ps (it, φ)).length : Int)))) (hn__2 : h26 (m + 2) = some (ai G 86 N1)) (hs5__2 : h26 (m + 5) = some (ai G 688 Ns3)) (fr__2 : ∀ q : Nat, (q ≠ m ∧ q ≠ m + 2 ∧ q ≠ m + 5) → h26 q = h q) (hw : w ≤ φ.length) (hR1 : Rw N1 it (φ.take w ++ flt i1 (φ.drop w))) (hS1 : Sm it (φ.take w ++ flt i1 (φ.drop w))) (hmz : w < nz), Go G X 3 QQ 0 0 nx 26 [(0, .ref m), (1, vi (i1 : Int)), (2, vi ((w : Int) - 1))] [] h26 := by
      intro nz
      induction nz with
      | zero => intro w N1 h26 hm__2 hn__2 hs5__2 fr__2 hw hR1 hS1 hmz; exact absurd hmz (Nat.not_lt_zero _)
      | succ nz ih26 =>
        intro w N1 h26 hm__2 hn__2 hs5__2 fr__2 hw hR1 hS1 hmz
        refine g_iload_n k rfl dX10_drop_26 ?_
        refine g_if_lt k (tgt := 70) (by omega) dX10_drop_27 (by decide) (fun c27 => ?_) (fun c27 => ?_)
        · skip
          have hRf : Rw N1 it (flt i1 φ) := by have := hR1; rw [show w = 0 by omega, List.take_zero, List.drop_zero, List.nil_append] at this; exact this
          have hSf : Sm it (flt i1 φ) := by have := hS1; rw [show w = 0 by omega, List.take_zero, List.drop_zero, List.nil_append] at this; exact this
          obtain ⟨g8, g28, gsm⟩ := id hSf
          refine g_iconst k dX10_drop_70 ?_
          refine g_istore_n k (lv2 := [(0, .ref m), (1, vi (i1 : Int)), (2, vi 0)]) (by decide) rfl rfl dX10_drop_71 ?_
          have K72 : ∀ (nz_1 : Nat) (v : Nat) (N2 : Nat → Int) (h72 : Hp) (hm__3 : h72 m = some (mo m (fu (fu s 0 0) 9 ((psh ps (it, φ)).length : Int)))) (hn__3 : h72 (m + 2) = some (ai G 86 N2)) (hs5__3 : h72 (m + 5) = some (ai G 688 Ns3)) (fr__3 : ∀ q : Nat, (q ≠ m ∧ q ≠ m + 2 ∧ q ≠ m + 5) → h72 q = h q) (hv : v ≤ (flt i1 φ).length) (h0 : N2 0 = it) (h1 : N2 1 = ((flt i1 φ).length : Int)) (hd : ∀ j, j < (flt i1 φ).length → N2 (2 + j) = kd (flt i1 φ) j ∧ N2 (30 + j) = (if j < v then (dI i1 (fi (flt i1 φ) j) : Int) else fi (flt i1 φ) j) ∧ N2 (58 + j) = (if j < v then (dI i1 (se (flt i1 φ) j) : Int) else se (flt i1 φ) j)) (hmz_1 : (flt i1 φ).length - v < nz_1), Go G X 3 QQ 0 0 nx 72 [(0, .ref m), (1, vi (i1 : Int)), (2, vi (v : Int))] [] h72 := by
            intro nz_1
            induction nz_1 with
            | zero => intro v N2 h72 hm__3 hn__3 hs5__3 fr__3 hv h0 h1 hd hmz_1; exact absurd hmz_1 (Nat.not_lt_zero _)
            | succ nz_1 ih72 =>
              intro v N2 h72 hm__3 hn__3 hs5__3 fr__3 hv h0 h1 hd hmz_1
              refine g_iload_n k rfl dX10_drop_72 ?_
              refine g_aload_n k rfl dX10_drop_73 ?_
              refine g_cVi k 10 (As := []) v_X10_facts rfl rfl hm__3 ml_X10_237 (c1_X10_facts hm__3 hn__3 (l1 := (flt i1 φ).length) h1) (by omega) (by omega) rfl (Nat.le_of_ble_eq_true rfl) rfl dX10_drop_74 (fun r74 h74 p74 => ?_)
              obtain ⟨eh74, p74⟩ := p74
              have eh74 := eh74.symm; subst eh74
              subst p74
              refine g_icmp_ge k (tgt := 138) (by omega) (by omega) dX10_drop_77 (by decide) (fun c77 => ?_) (fun c77 => ?_)
              · skip
                refine g_aload_n k rfl dX10_drop_138 ?_
                refine g_get k 10 10 (v := .ref (m + 2)) (C := RX10) (T := TX10) (N := 38) fl_X10_74 rfl wi_X10 (by decide) rfl hm__3 rfl dX10_drop_139 ?_
                refine g_iconst k dX10_drop_142 ?_
                refine g_dup2 k rfl rfl dX10_drop_143 ?_
                refine g_iald k 0 hn__3 (by omega) (by omega) (by decide) dX10_drop_144 ?_
                rw [show N2 0 = (it : Int) from h0]
                refine g_iconst k dX10_drop_145 ?_
                refine g_isub k dX10_drop_146 ?_
                refine g_iast k 0 hn__3 (by omega) (by omega) (by decide) dX10_drop_147 (fun h147 eh147 => ?_)
                have hm__4 : h147 m = some (mo m (fu (fu s 0 0) 9 ((psh ps (it, φ)).length : Int))) := (congrFun eh147 _).trans ((hup_n (by omega)).trans hm__3)
                have hn__4 : h147 (m + 2) = some (ai G 86 (fu N2 0 ((it : Int) - 1))) := (congrFun eh147 _).trans hup_s
                have hs5__4 : h147 (m + 5) = some (ai G 688 Ns3) := (congrFun eh147 _).trans ((hup_n (by omega)).trans hs5__3)
                have fr__4 : ∀ q : Nat, (q ≠ m ∧ q ≠ m + 2 ∧ q ≠ m + 5) → h147 q = h q := fun q hq => (congrFun eh147 q).trans ((hup_n (by omega)).trans (fr__3 q hq))
                refine g_aload_n k rfl dX10_drop_148 ?_
                refine g_cVi k 10 (As := []) v_X10_items rfl rfl hm__4 ml_X10_228 (c1_X10_items hm__4 hn__4 (i1 := it - 1) (by rw [fu_s]; omega)) (by omega) (by omega) rfl (Nat.le_of_ble_eq_true rfl) rfl dX10_drop_149 (fun r149 h149 p149 => ?_)
                obtain ⟨eh149, p149⟩ := p149
                have eh149 := eh149.symm; subst eh149
                subst p149
                rw [← hQQ]
                refine g_ireti k rfl dX10_drop_152 ?_
                rw [if_pos hh, if_pos hh, if_pos hh, show p.toNat = i1 by omega, drp_map]
                exact ⟨⟨fun _ => by omega, fun q => absurd hh q⟩, ⟨_, ⟨hm__4, ((fr__4 (m + 1) (by omega)).trans cq1), ⟨_, hn__4, ⟨by rw [fu_s]; omega, by rw [fu_n (by omega), List.length_map]; exact h1, fun j hj => by rw [List.length_map] at hj; have hdj := hd j hj; rw [if_pos (by omega), if_pos (by omega)] at hdj; rw [fu_n (by omega), fu_n (by omega), fu_n (by omega), (map_at hj).1, (map_at hj).2.1, (map_at hj).2.2]; exact hdj⟩⟩, (by rw [fr__4 (m + 3) (by omega)]; exact cq3), (by rw [fr__4 (m + 4) (by omega)]; exact cq4), ⟨Ns3, hs5__4, hns⟩, (by rw [fr__4 (m + 6) (by omega)]; exact cq6), (by rw [fr__4 (m + 7) (by omega)]; exact cq7), (by rw [fr__4 (m + 8) (by omega)]; exact cq8), (by rw [fr__4 (m + 9) (by omega)]; exact cq9), (by rw [fr__4 (m + 10) (by omega)]; exact cq10), (by rw [fr__4 (m + 11) (by omega)]; exact cq11), (by rw [fr__4 (m + 12) (by omega)]; exact cq12), (by rw [fr__4 (m + 13) (by omega)]; exact cq13), (by rw [fr__4 (m + 14) (by omega)]; exact cq14), (by rw [fr__4 (m + 15) (by omega)]; exact cq15), (by rw [fr__4 (m + 16) (by omega)]; exact cq16), (by rw [fr__4 (m + 17) (by omega)]; exact cq17)⟩, ⟨z1, z6, rfl, z14, z17, z15, z16⟩, rfl⟩, (fun q hq => fr__4 q (by omega))⟩
              · skip
                have hb := gsm v (by omega)
                have hdv := hd v (by omega)
                rw [if_neg (by omega), if_neg (by omega)] at hdv
                obtain ⟨w1, w2, w3⟩ := hdv
                refine g_aload_n k rfl dX10_drop_80 ?_
                refine g_get k 10 10 (v := .ref (m + 2)) (C := RX10) (T := TX10) (N := 38) fl_X10_74 rfl wi_X10 (by decide) rfl hm__3 rfl dX10_drop_81 ?_
                refine g_bipush k rfl dX10_drop_84 ?_
                refine g_iload_n k rfl dX10_drop_86 ?_
                refine g_iadd k dX10_drop_87 ?_
                refine g_iald k (30 + v) hn__3 (by omega) (by omega) (by decide) dX10_drop_88 ?_
                rw [show N2 (30 + v) = (fi (flt i1 φ) v : Int) from w2]
                refine g_iload_n k rfl dX10_drop_89 ?_
                refine g_icmp_le k (tgt := 106) (by omega) (by omega) dX10_drop_90 (by decide) (fun c90 => ?_) (fun c90 => ?_)
                · skip
                  refine g_aload_n k rfl dX10_drop_106 ?_
                  refine g_get k 10 10 (v := .ref (m + 2)) (C := RX10) (T := TX10) (N := 38) fl_X10_74 rfl wi_X10 (by decide) rfl hm__3 rfl dX10_drop_107 ?_
                  refine g_bipush k rfl dX10_drop_110 ?_
                  refine g_iload_n k rfl dX10_drop_112 ?_
                  refine g_iadd k dX10_drop_113 ?_
                  refine g_iald k (58 + v) hn__3 (by omega) (by omega) (by decide) dX10_drop_114 ?_
                  rw [show N2 (58 + v) = (se (flt i1 φ) v : Int) from (by first | exact w3 | (rw [fu_n (by omega)]; exact w3))]
                  refine g_iload_n k rfl dX10_drop_115 ?_
                  refine g_icmp_le k (tgt := 132) (by omega) (by omega) dX10_drop_116 (by decide) (fun c116 => ?_) (fun c116 => ?_)
                  · skip
                    refine g_iinc k (lv2 := [(0, .ref m), (1, vi (i1 : Int)), (2, vi ((v : Int) + 1))]) rfl (by decide) rfl rfl dX10_drop_132 ?_
                    refine g_goto k (tgt := 72) dX10_drop_135 (by decide) ?_
                    exact ih72 (v + 1) _ h72 hm__3 hn__3 hs5__3 fr__3 (by omega) h0 h1 (fun j hj => by have hdj := hd j hj; by_cases e : j = v; (subst e; rw [if_neg (by omega), if_neg (by omega)] at hdj; rw [if_pos (by omega), if_pos (by omega)]; unfold dI; rw [if_neg (by omega), if_neg (by omega)]; exact hdj); (skip; by_cases e2 : j < v; (rw [if_pos e2, if_pos e2] at hdj; rw [if_pos (by omega), if_pos (by omega)]; exact hdj); (rw [if_neg e2, if_neg e2] at hdj; rw [if_neg (by omega), if_neg (by omega)]; exact hdj))) (by omega)
                  · skip
                    refine g_aload_n k rfl dX10_drop_119 ?_
                    refine g_get k 10 10 (v := .ref (m + 2)) (C := RX10) (T := TX10) (N := 38) fl_X10_74 rfl wi_X10 (by decide) rfl hm__3 rfl dX10_drop_120 ?_
                    refine g_bipush k rfl dX10_drop_123 ?_
                    refine g_iload_n k rfl dX10_drop_125 ?_
                    refine g_iadd k dX10_drop_126 ?_
                    refine g_dup2 k rfl rfl dX10_drop_127 ?_
                    refine g_iald k (58 + v) hn__3 (by omega) (by omega) (by decide) dX10_drop_128 ?_
                    rw [show N2 (58 + v) = (se (flt i1 φ) v : Int) from (by first | exact w3 | (rw [fu_n (by omega)]; exact w3))]
                    refine g_iconst k dX10_drop_129 ?_
                    refine g_isub k dX10_drop_130 ?_
                    refine g_iast k (58 + v) hn__3 (by omega) (by omega) (by decide) dX10_drop_131 (fun h131 eh131 => ?_)
                    have hm__5 : h131 m = some (mo m (fu (fu s 0 0) 9 ((psh ps (it, φ)).length : Int))) := (congrFun eh131 _).trans ((hup_n (by omega)).trans hm__3)
                    have hn__5 : h131 (m + 2) = some (ai G 86 (fu N2 (58 + v) ((se (flt i1 φ) v : Int) - 1))) := (congrFun eh131 _).trans hup_s
                    have hs5__5 : h131 (m + 5) = some (ai G 688 Ns3) := (congrFun eh131 _).trans ((hup_n (by omega)).trans hs5__3)
                    have fr__5 : ∀ q : Nat, (q ≠ m ∧ q ≠ m + 2 ∧ q ≠ m + 5) → h131 q = h q := fun q hq => (congrFun eh131 q).trans ((hup_n (by omega)).trans (fr__3 q hq))
                    refine g_iinc k (lv2 := [(0, .ref m), (1, vi (i1 : Int)), (2, vi ((v : Int) + 1))]) rfl (by decide) rfl rfl dX10_drop_132 ?_
                    refine g_goto k (tgt := 72) dX10_drop_135 (by decide) ?_
                    exact ih72 (v + 1) _ h131 hm__5 hn__5 hs5__5 fr__5 (by omega) (by rw [fu_n (by omega)]; exact h0) (by rw [fu_n (by omega)]; exact h1) (fun j hj => by have hdj := hd j hj; by_cases e : j = v; (subst e; rw [if_neg (by omega), if_neg (by omega)] at hdj; rw [if_pos (by omega), if_pos (by omega)]; unfold dI; rw [fu_n (by omega), fu_n (by omega), fu_s, if_neg (by omega), if_pos (by omega)]; exact ⟨hdj.1, hdj.2.1, by omega⟩); (rw [fu_n (by omega), fu_n (by omega), fu_n (by omega)]; by_cases e2 : j < v; (rw [if_pos e2, if_pos e2] at hdj; rw [if_pos (by omega), if_pos (by omega)]; exact hdj); (rw [if_neg e2, if_neg e2] at hdj; rw [if_neg (by omega), if_neg (by omega)]; exact hdj))) (by omega)
                · skip
                  refine g_aload_n k rfl dX10_drop_93 ?_
                  refine g_get k 10 10 (v := .ref (m + 2)) (C := RX10) (T := TX10) (N := 38) fl_X10_74 rfl wi_X10 (by decide) rfl hm__3 rfl dX10_drop_94 ?_
                  refine g_bipush k rfl dX10_drop_97 ?_
                  refine g_iload_n k rfl dX10_drop_99 ?_
                  refine g_iadd k dX10_drop_100 ?_
                  refine g_dup2 k rfl rfl dX10_drop_101 ?_
                  refine g_iald k (30 + v) hn__3 (by omega) (by omega) (by decide) dX10_drop_102 ?_
                  rw [show N2 (30 + v) = (fi (flt i1 φ) v : Int) from w2]
                  refine g_iconst k dX10_drop_103 ?_
                  refine g_isub k dX10_drop_104 ?_
                  refine g_iast k (30 + v) hn__3 (by omega) (by omega) (by decide) dX10_drop_105 (fun h105 eh105 => ?_)
                  have hm__6 : h105 m = some (mo m (fu (fu s 0 0) 9 ((psh ps (it, φ)).length : Int))) := (congrFun eh105 _).trans ((hup_n (by omega)).trans hm__3)
                  have hn__6 : h105 (m + 2) = some (ai G 86 (fu N2 (30 + v) ((fi (flt i1 φ) v : Int) - 1))) := (congrFun eh105 _).trans hup_s
                  have hs5__6 : h105 (m + 5) = some (ai G 688 Ns3) := (congrFun eh105 _).trans ((hup_n (by omega)).trans hs5__3)
                  have fr__6 : ∀ q : Nat, (q ≠ m ∧ q ≠ m + 2 ∧ q ≠ m + 5) → h105 q = h q := fun q hq => (congrFun eh105 q).trans ((hup_n (by omega)).trans (fr__3 q hq))
                  refine g_aload_n k rfl dX10_drop_106 ?_
                  refine g_get k 10 10 (v := .ref (m + 2)) (C := RX10) (T := TX10) (N := 38) fl_X10_74 rfl wi_X10 (by decide) rfl hm__6 rfl dX10_drop_107 ?_
                  refine g_bipush k rfl dX10_drop_110 ?_
                  refine g_iload_n k rfl dX10_drop_112 ?_
                  refine g_iadd k dX10_drop_113 ?_
                  refine g_iald k (58 + v) hn__6 (by omega) (by omega) (by decide) dX10_drop_114 ?_
                  rw [show (fu N2 (30 + v) ((fi (flt i1 φ) v : Int) - 1)) (58 + v) = (se (flt i1 φ) v : Int) from (by first | exact w3 | (rw [fu_n (by omega)]; exact w3))]
                  refine g_iload_n k rfl dX10_drop_115 ?_
                  refine g_icmp_le k (tgt := 132) (by omega) (by omega) dX10_drop_116 (by decide) (fun c116_1 => ?_) (fun c116_1 => ?_)
                  · skip
                    refine g_iinc k (lv2 := [(0, .ref m), (1, vi (i1 : Int)), (2, vi ((v : Int) + 1))]) rfl (by decide) rfl rfl dX10_drop_132 ?_
                    refine g_goto k (tgt := 72) dX10_drop_135 (by decide) ?_
                    exact ih72 (v + 1) _ h105 hm__6 hn__6 hs5__6 fr__6 (by omega) (by rw [fu_n (by omega)]; exact h0) (by rw [fu_n (by omega)]; exact h1) (fun j hj => by have hdj := hd j hj; by_cases e : j = v; (subst e; rw [if_neg (by omega), if_neg (by omega)] at hdj; rw [if_pos (by omega), if_pos (by omega)]; unfold dI; rw [fu_n (by omega), fu_s, fu_n (by omega), if_pos (by omega), if_neg (by omega)]; exact ⟨hdj.1, by omega, hdj.2.2⟩); (rw [fu_n (by omega), fu_n (by omega), fu_n (by omega)]; by_cases e2 : j < v; (rw [if_pos e2, if_pos e2] at hdj; rw [if_pos (by omega), if_pos (by omega)]; exact hdj); (rw [if_neg e2, if_neg e2] at hdj; rw [if_neg (by omega), if_neg (by omega)]; exact hdj))) (by omega)
                  · skip
                    refine g_aload_n k rfl dX10_drop_119 ?_
                    refine g_get k 10 10 (v := .ref (m + 2)) (C := RX10) (T := TX10) (N := 38) fl_X10_74 rfl wi_X10 (by decide) rfl hm__6 rfl dX10_drop_120 ?_
                    refine g_bipush k rfl dX10_drop_123 ?_
                    refine g_iload_n k rfl dX10_drop_125 ?_
                    refine g_iadd k dX10_drop_126 ?_
                    refine g_dup2 k rfl rfl dX10_drop_127 ?_
                    refine g_iald k (58 + v) hn__6 (by omega) (by omega) (by decide) dX10_drop_128 ?_
                    rw [show (fu N2 (30 + v) ((fi (flt i1 φ) v : Int) - 1)) (58 + v) = (se (flt i1 φ) v : Int) from (by first | exact w3 | (rw [fu_n (by omega)]; exact w3))]
                    refine g_iconst k dX10_drop_129 ?_
                    refine g_isub k dX10_drop_130 ?_
                    refine g_iast k (58 + v) hn__6 (by omega) (by omega) (by decide) dX10_drop_131 (fun h131_1 eh131_1 => ?_)
                    have hm__7 : h131_1 m = some (mo m (fu (fu s 0 0) 9 ((psh ps (it, φ)).length : Int))) := (congrFun eh131_1 _).trans ((hup_n (by omega)).trans hm__6)
                    have hn__7 : h131_1 (m + 2) = some (ai G 86 (fu (fu N2 (30 + v) ((fi (flt i1 φ) v : Int) - 1)) (58 + v) ((se (flt i1 φ) v : Int) - 1))) := (congrFun eh131_1 _).trans hup_s
                    have hs5__7 : h131_1 (m + 5) = some (ai G 688 Ns3) := (congrFun eh131_1 _).trans ((hup_n (by omega)).trans hs5__6)
                    have fr__7 : ∀ q : Nat, (q ≠ m ∧ q ≠ m + 2 ∧ q ≠ m + 5) → h131_1 q = h q := fun q hq => (congrFun eh131_1 q).trans ((hup_n (by omega)).trans (fr__6 q hq))
                    refine g_iinc k (lv2 := [(0, .ref m), (1, vi (i1 : Int)), (2, vi ((v : Int) + 1))]) rfl (by decide) rfl rfl dX10_drop_132 ?_
                    refine g_goto k (tgt := 72) dX10_drop_135 (by decide) ?_
                    exact ih72 (v + 1) _ h131_1 hm__7 hn__7 hs5__7 fr__7 (by omega) (by rw [fu_n (by omega), fu_n (by omega)]; exact h0) (by rw [fu_n (by omega), fu_n (by omega)]; exact h1) (fun j hj => by have hdj := hd j hj; by_cases e : j = v; (subst e; rw [if_neg (by omega), if_neg (by omega)] at hdj; rw [if_pos (by omega), if_pos (by omega)]; unfold dI; rw [fu_n (by omega), fu_n (by omega), fu_n (by omega), fu_s, fu_s, if_pos (by omega), if_pos (by omega)]; exact ⟨hdj.1, by omega, by omega⟩); (rw [fu_n (by omega), fu_n (by omega), fu_n (by omega), fu_n (by omega), fu_n (by omega), fu_n (by omega)]; by_cases e2 : j < v; (rw [if_pos e2, if_pos e2] at hdj; rw [if_pos (by omega), if_pos (by omega)]; exact hdj); (rw [if_neg e2, if_neg e2] at hdj; rw [if_neg (by omega), if_neg (by omega)]; exact hdj))) (by omega)
          exact K72 _ 0 _ h26 hm__2 hn__2 hs5__2 fr__2 (Nat.zero_le _) hRf.i hRf.n (fun j hj => by rw [if_neg (by omega), if_neg (by omega)]; exact hRf.2.2 j hj) (Nat.lt_succ_self _)
        · skip
          have hta := tk_at (φ := φ) (ψ := flt i1 (φ.drop w)) (v := w) (i := w - 1) (by omega) (by omega)
          have hbw := hsm (w - 1) (by omega)
          have hl1 : w ≤ (φ.take w ++ flt i1 (φ.drop w)).length := by rw [List.length_append, List.length_take]; omega
          have r1 := hR1.f (k := w - 1) (by omega)
          have r2 := hR1.s (k := w - 1) (by omega)
          rw [hta.2.1] at r1
          rw [hta.2.2] at r2
          have ew : w - 1 + 1 = w := by omega
          rw [show (w : Int) - 1 = ((w - 1 : Nat) : Int) by omega]
          refine g_aload_n k rfl dX10_drop_30 ?_
          refine g_get k 10 10 (v := .ref (m + 2)) (C := RX10) (T := TX10) (N := 38) fl_X10_74 rfl wi_X10 (by decide) rfl hm__2 rfl dX10_drop_31 ?_
          refine g_bipush k rfl dX10_drop_34 ?_
          refine g_iload_n k rfl dX10_drop_36 ?_
          refine g_iadd k dX10_drop_37 ?_
          refine g_iald k (30 + (w - 1)) hn__2 (by omega) (by omega) (by decide) dX10_drop_38 ?_
          rw [show N1 (30 + (w - 1)) = (fi φ (w - 1) : Int) from r1]
          refine g_iload_n k rfl dX10_drop_39 ?_
          refine g_icmp_eq k (tgt := 56) (by omega) (by omega) dX10_drop_40 (by decide) (fun c40 => ?_) (fun c40 => ?_)
          · skip
            refine g_aload_n k rfl dX10_drop_56 ?_
            refine g_get k 10 10 (v := .ref (m + 2)) (C := RX10) (T := TX10) (N := 38) fl_X10_74 rfl wi_X10 (by decide) rfl hm__2 rfl dX10_drop_57 ?_
            refine g_iload_n k rfl dX10_drop_60 ?_
            refine g_cSv k (As := [.ref (m + 2), vi ((w - 1 : Nat) : Int)]) v_X10_forgets ml_X10_256 (c_X10_forgets hn__2 hR1 hS1 (k1 := w - 1) (by omega)) (by omega) (by omega) rfl (Nat.le_of_ble_eq_true rfl) rfl dX10_drop_61 (fun h61 p61 => ?_)
            obtain ⟨⟨N7, nn7, hR7⟩, nfr7⟩ := p61
            have hm__8 : h61 m = some (mo m (fu (fu s 0 0) 9 ((psh ps (it, φ)).length : Int))) := (nfr7 _ (by omega)).trans hm__2
            have hn__8 : h61 (m + 2) = some (ai G 86 N7) := nn7
            have hs5__8 : h61 (m + 5) = some (ai G 688 Ns3) := (nfr7 _ (by omega)).trans hs5__2
            have fr__8 : ∀ q : Nat, (q ≠ m ∧ q ≠ m + 2 ∧ q ≠ m + 5) → h61 q = h q := fun q hq => (nfr7 q (by omega)).trans (fr__2 q hq)
            refine g_iinc k (lv2 := [(0, .ref m), (1, vi (i1 : Int)), (2, vi (((w - 1 : Nat) : Int) + (-1)))]) rfl (by decide) rfl rfl dX10_drop_64 ?_
            refine g_goto k (tgt := 26) dX10_drop_67 (by decide) ?_
            rw [show ((w - 1 : Nat) : Int) + -1 = ((w - 1 : Nat) : Int) - 1 by omega]
            exact ih26 (w - 1) _ h61 hm__8 hn__8 hs5__8 fr__8 (by omega) (by rw [flt_n (by omega) (by omega), ew]; exact hR7) (by rw [flt_n (by omega) (by omega), ew]; exact Sm_fgt hS1 (by omega)) (by omega)
          · skip
            refine g_aload_n k rfl dX10_drop_43 ?_
            refine g_get k 10 10 (v := .ref (m + 2)) (C := RX10) (T := TX10) (N := 38) fl_X10_74 rfl wi_X10 (by decide) rfl hm__2 rfl dX10_drop_44 ?_
            refine g_bipush k rfl dX10_drop_47 ?_
            refine g_iload_n k rfl dX10_drop_49 ?_
            refine g_iadd k dX10_drop_50 ?_
            refine g_iald k (58 + (w - 1)) hn__2 (by omega) (by omega) (by decide) dX10_drop_51 ?_
            rw [show N1 (58 + (w - 1)) = (se φ (w - 1) : Int) from r2]
            refine g_iload_n k rfl dX10_drop_52 ?_
            refine g_icmp_ne k (tgt := 64) (by omega) (by omega) dX10_drop_53 (by decide) (fun c53 => ?_) (fun c53 => ?_)
            · skip
              refine g_iinc k (lv2 := [(0, .ref m), (1, vi (i1 : Int)), (2, vi (((w - 1 : Nat) : Int) + (-1)))]) rfl (by decide) rfl rfl dX10_drop_64 ?_
              refine g_goto k (tgt := 26) dX10_drop_67 (by decide) ?_
              rw [show ((w - 1 : Nat) : Int) + -1 = ((w - 1 : Nat) : Int) - 1 by omega]
              exact ih26 (w - 1) _ h26 hm__2 hn__2 hs5__2 fr__2 (by omega) (by rw [flt_y (by omega) (by omega), ew]; exact hR1) (by rw [flt_y (by omega) (by omega), ew]; exact hS1) (by omega)
            · skip
              refine g_aload_n k rfl dX10_drop_56 ?_
              refine g_get k 10 10 (v := .ref (m + 2)) (C := RX10) (T := TX10) (N := 38) fl_X10_74 rfl wi_X10 (by decide) rfl hm__2 rfl dX10_drop_57 ?_
              refine g_iload_n k rfl dX10_drop_60 ?_
              refine g_cSv k (As := [.ref (m + 2), vi ((w - 1 : Nat) : Int)]) v_X10_forgets ml_X10_256 (c_X10_forgets hn__2 hR1 hS1 (k1 := w - 1) (by omega)) (by omega) (by omega) rfl (Nat.le_of_ble_eq_true rfl) rfl dX10_drop_61 (fun h61_1 p61_1 => ?_)
              obtain ⟨⟨N7, nn7, hR7⟩, nfr7⟩ := p61_1
              have hm__9 : h61_1 m = some (mo m (fu (fu s 0 0) 9 ((psh ps (it, φ)).length : Int))) := (nfr7 _ (by omega)).trans hm__2
              have hn__9 : h61_1 (m + 2) = some (ai G 86 N7) := nn7
              have hs5__9 : h61_1 (m + 5) = some (ai G 688 Ns3) := (nfr7 _ (by omega)).trans hs5__2
              have fr__9 : ∀ q : Nat, (q ≠ m ∧ q ≠ m + 2 ∧ q ≠ m + 5) → h61_1 q = h q := fun q hq => (nfr7 q (by omega)).trans (fr__2 q hq)
              refine g_iinc k (lv2 := [(0, .ref m), (1, vi (i1 : Int)), (2, vi (((w - 1 : Nat) : Int) + (-1)))]) rfl (by decide) rfl rfl dX10_drop_64 ?_
              refine g_goto k (tgt := 26) dX10_drop_67 (by decide) ?_
              rw [show ((w - 1 : Nat) : Int) + -1 = ((w - 1 : Nat) : Int) - 1 by omega]
              exact ih26 (w - 1) _ h61_1 hm__9 hn__9 hs5__9 fr__9 (by omega) (by rw [flt_n (by omega) (by omega), ew]; exact hR7) (by rw [flt_n (by omega) (by omega), ew]; exact Sm_fgt hS1 (by omega)) (by omega)
    exact K26 _ (φ.length) _ h16 hm__1 hn__1 hs5__1 fr__1 (Nat.le_refl _) (by rw [List.take_length, List.drop_length]; show Rw N it (φ ++ []); rw [List.append_nil]; exact hR) (by rw [List.take_length, List.drop_length]; show Sm it (φ ++ []); rw [List.append_nil]; exact hS) (Nat.lt_succ_self _)
  · skip
    refine g_iconst k dX10_drop_13 ?_
    rw [← hQQ]
    refine g_ireti k rfl dX10_drop_14 ?_
    have hh := q7.f (by omega)
    rw [if_neg hh, if_neg hh, if_neg hh]
    exact ⟨⟨fun q => absurd q hh, fun _ => rfl⟩, ⟨_, ⟨hm_, ((fr_ (m + 1) (by omega)).trans cq1), ⟨N, hn_, hR⟩, (by rw [fr_ (m + 3) (by omega)]; exact cq3), (by rw [fr_ (m + 4) (by omega)]; exact cq4), ⟨Ns, hs5_, hsr5⟩, (by rw [fr_ (m + 6) (by omega)]; exact cq6), (by rw [fr_ (m + 7) (by omega)]; exact cq7), (by rw [fr_ (m + 8) (by omega)]; exact cq8), (by rw [fr_ (m + 9) (by omega)]; exact cq9), (by rw [fr_ (m + 10) (by omega)]; exact cq10), (by rw [fr_ (m + 11) (by omega)]; exact cq11), (by rw [fr_ (m + 12) (by omega)]; exact cq12), (by rw [fr_ (m + 13) (by omega)]; exact cq13), (by rw [fr_ (m + 14) (by omega)]; exact cq14), (by rw [fr_ (m + 15) (by omega)]; exact cq15), (by rw [fr_ (m + 16) (by omega)]; exact cq16), (by rw [fr_ (m + 17) (by omega)]; exact cq17)⟩, hsc, rfl⟩, (fun q hq => fr_ q (by omega))⟩

