/-! the reference: lay-outs by a length, what may be told, the order -/
set_option maxHeartbeats 600000 in
set_option maxRecDepth 100000 in
theorem c_X10_laysBegins {G : Gx} {h : Hp} {nx : Nat} {m : Nat} {s : Nat → Int} (hm : h m = some (mo m s)) {N : Nat → Int} {it : Nat} {φ : Fs} (hn : h (m + 2) = some (ai G 86 N)) (hR : Rw N it φ) (hS : Sm it φ) {S : Nat → Int} (hu : h (m + 11) = some (ai G 64 S)) {Bg : Nat → Int} (hg : h (m + 15) = some (ai G 8 Bg)) {L : Int} (hL : 1 ≤ L ∧ L ≤ 60) (hre : reS (str φ L it) it) : Con G yX10_laysBegins cX10_laysBegins 4 none 3 0 0 [.ref m, vi L] h nx (PV fun h' => (∃ S2 B2 : Nat → Int, h' (m + 11) = some (ai G 64 S2) ∧ h' (m + 15) = some (ai G 8 B2) ∧ (∀ a b, a < it → b < it → S2 (a * 8 + b) = cs (str φ L it (a * 8 + b))) ∧ ∀ v, v < it → B2 v = ely (str φ L it) v it) ∧ ∀ q : Nat, (q ≠ m + 11 ∧ q ≠ m + 15) → h' q = h q) := by
  obtain ⟨h8, h28, hsm⟩ := id hS
  refine Con.of v_X10_laysBegins.2.2.2.2.2.1 (Nat.le_of_ble_eq_true rfl) (lv := [(0, .ref m), (1, vi L)]) rfl (fun X k => ?_)
  generalize hQQ : QM G X nx 0 0 _ = QQ
  have fr0 : ∀ q : Nat, (q ≠ m + 11 ∧ q ≠ m + 15) → h q = h q := fun _ _ => rfl
  refine g_aload_n k rfl dX10_laysBegins_0 ?_
  refine g_aload_n k rfl dX10_laysBegins_1 ?_
  refine g_get k 10 10 (C := RX10) (T := TX10) (N := 38) fl_X10_74 rfl wi_X10 (by decide) rfl hm rfl dX10_laysBegins_2 ?_
  refine g_iload_n k rfl dX10_laysBegins_5 ?_
  refine g_cVv k 10 (As := [.ref (m + 2), vi L]) v_X10_laysSteps rfl rfl hm ml_X10_179 (c_X10_laysSteps hm hn hR hS (by omega) hu (L := L) (by omega)) (by omega) (by omega) rfl (Nat.le_of_ble_eq_true rfl) rfl dX10_laysBegins_6 (fun h6 p6 => ?_)
  obtain ⟨⟨S2, nu, hP⟩, nfr⟩ := p6
  have hm_ : h6 m = some (mo m s) := (nfr _ (by omega)).trans hm
  have hn_ : h6 (m + 2) = some (ai G 86 N) := (nfr _ (by omega)).trans hn
  have hu_ : h6 (m + 11) = some (ai G 64 S2) := nu
  have hg_ : h6 (m + 15) = some (ai G 8 Bg) := (nfr _ (by omega)).trans hg
  have fr_ : ∀ q : Nat, (q ≠ m + 11 ∧ q ≠ m + 15) → h6 q = h q := fun q hq => (nfr q (by omega)).trans (fr0 q hq)
  have hst := FwP.st hS hL (by rw [wM_0 hL.1, wM_1 hL.1] at hP; exact hP)
  have hval := hst.2.2 hre
  have hbd := str_bd (φ := φ) h8 hL
  refine g_iconst k dX10_laysBegins_9 ?_
  refine g_istore_n k (lv2 := [(0, .ref m), (1, vi L), (2, vi 0)]) (by decide) rfl rfl dX10_laysBegins_10 ?_
  have K11 : ∀ (nz : Nat) (v : Nat) (B1 : Nat → Int) (h11 : Hp) (hm__1 : h11 m = some (mo m s)) (hn__1 : h11 (m + 2) = some (ai G 86 N)) (hu__1 : h11 (m + 11) = some (ai G 64 S2)) (hg__1 : h11 (m + 15) = some (ai G 8 B1)) (fr__1 : ∀ q : Nat, (q ≠ m + 11 ∧ q ≠ m + 15) → h11 q = h q) (hv : v ≤ it) (hd : ∀ j, j < v → B1 j = ely (str φ L it) j it) (hmz : it - v < nz), Go G X 4 QQ 0 0 nx 11 [(0, .ref m), (1, vi L), (2, vi (v : Int))] [] h11 := by
    intro nz
    induction nz with
    | zero => intro v B1 h11 hm__1 hn__1 hu__1 hg__1 fr__1 hv hd hmz; exact absurd hmz (Nat.not_lt_zero _)
    | succ nz ih11 =>
      intro v B1 h11 hm__1 hn__1 hu__1 hg__1 fr__1 hv hd hmz
      refine g_iload_n k rfl dX10_laysBegins_11 ?_
      refine g_aload_n k rfl dX10_laysBegins_12 ?_
      refine g_cVi k 10 (As := []) v_X10_items rfl rfl hm__1 ml_X10_228 (c_X10_items hm__1 hn__1 hR hS) (by omega) (by omega) rfl (Nat.le_of_ble_eq_true rfl) rfl dX10_laysBegins_13 (fun r13 h13 p13 => ?_)
      obtain ⟨eh13, p13⟩ := p13
      have eh13 := eh13.symm; subst eh13
      subst p13
      refine g_icmp_ge k (tgt := 85) (by omega) (by omega) dX10_laysBegins_16 (by decide) (fun c16 => ?_) (fun c16 => ?_)
      · skip
        rw [← hQQ]
        refine g_retv k rfl dX10_laysBegins_85 ?_
        exact ⟨⟨S2, B1, hu__1, hg__1, hval, fun j hj => hd j (by omega)⟩, fr__1⟩
      · skip
        refine g_aload_n k rfl dX10_laysBegins_19 ?_
        refine g_get k 10 32 (C := RX10) (T := TX10) (N := 38) fl_X10_118 rfl wi_X10 (by decide) rfl hm__1 rfl dX10_laysBegins_20 ?_
        refine g_iload_n k rfl dX10_laysBegins_23 ?_
        refine g_iconst k dX10_laysBegins_24 ?_
        refine g_iast k v hg__1 (by omega) (by omega) (by decide) dX10_laysBegins_25 (fun h25 eh25 => ?_)
        have hm__2 : h25 m = some (mo m s) := (congrFun eh25 _).trans ((hup_n (by omega)).trans hm__1)
        have hn__2 : h25 (m + 2) = some (ai G 86 N) := (congrFun eh25 _).trans ((hup_n (by omega)).trans hn__1)
        have hu__2 : h25 (m + 11) = some (ai G 64 S2) := (congrFun eh25 _).trans ((hup_n (by omega)).trans hu__1)
        have hg__2 : h25 (m + 15) = some (ai G 8 (fu B1 v 0)) := (congrFun eh25 _).trans hup_s
        have fr__2 : ∀ q : Nat, (q ≠ m + 11 ∧ q ≠ m + 15) → h25 q = h q := fun q hq => (congrFun eh25 q).trans ((hup_n (by omega)).trans (fr__1 q hq))
        refine g_iconst k dX10_laysBegins_26 ?_
        refine g_istore_n k (lv2 := [(0, .ref m), (1, vi L), (2, vi (v : Int)), (3, vi 0)]) (by decide) rfl rfl dX10_laysBegins_27 ?_
        have K28 : ∀ (nz_1 : Nat) (u : Nat) (B2 : Nat → Int) (h28 : Hp) (hm__3 : h28 m = some (mo m s)) (hn__3 : h28 (m + 2) = some (ai G 86 N)) (hu__3 : h28 (m + 11) = some (ai G 64 S2)) (hg__3 : h28 (m + 15) = some (ai G 8 B2)) (fr__3 : ∀ q : Nat, (q ≠ m + 11 ∧ q ≠ m + 15) → h28 q = h q) (hu2 : u ≤ it) (hcur : B2 v = ely (str φ L it) v u) (hd2 : ∀ j, j < v → B2 j = ely (str φ L it) j it) (hmz_1 : it - u < nz_1), Go G X 4 QQ 0 0 nx 28 [(0, .ref m), (1, vi L), (2, vi (v : Int)), (3, vi (u : Int))] [] h28 := by
          intro nz_1
          induction nz_1 with
          | zero => intro u B2 h28 hm__3 hn__3 hu__3 hg__3 fr__3 hu2 hcur hd2 hmz_1; exact absurd hmz_1 (Nat.not_lt_zero _)
          | succ nz_1 ih28 =>
            intro u B2 h28 hm__3 hn__3 hu__3 hg__3 fr__3 hu2 hcur hd2 hmz_1
            refine g_iload_n k rfl dX10_laysBegins_28 ?_
            refine g_aload_n k rfl dX10_laysBegins_29 ?_
            refine g_cVi k 10 (As := []) v_X10_items rfl rfl hm__3 ml_X10_228 (c_X10_items hm__3 hn__3 hR hS) (by omega) (by omega) rfl (Nat.le_of_ble_eq_true rfl) rfl dX10_laysBegins_30 (fun r30 h30 p30 => ?_)
            obtain ⟨eh30, p30⟩ := p30
            have eh30 := eh30.symm; subst eh30
            subst p30
            refine g_icmp_ge k (tgt := 79) (by omega) (by omega) dX10_laysBegins_33 (by decide) (fun c33 => ?_) (fun c33 => ?_)
            · skip
              refine g_iinc k (lv2 := [(0, .ref m), (1, vi L), (2, vi ((v : Int) + 1)), (3, vi (u : Int))]) rfl (by decide) rfl rfl dX10_laysBegins_79 ?_
              refine g_goto k (tgt := 11) dX10_laysBegins_82 (by decide) ?_
              refine g_less (lv2 := [(0, .ref m), (1, vi L), (2, vi ((v : Int) + 1))]) ⟨rfl, rfl, rfl, trivial⟩ ?_
              exact ih11 (v + 1) _ h28 hm__3 hn__3 hu__3 hg__3 fr__3 (by omega) (lt_s2 hd2 (by rw [hcur, show u = it by omega])) (by omega)
            · skip
              have hb0 := hbd (u * 8 + v) (by omega)
              have hb1 := ely_bd (i := v) hbd (by omega) (by omega) u (by omega)
              have hlt := cs_lt (M := (str φ L it) (u * 8 + v)) (e := ely (str φ L it) v u) (by omega) hb1.1
              have hcr : -100000 ≤ cs ((str φ L it) (u * 8 + v)) ∧ cs ((str φ L it) (u * 8 + v)) ≤ 15360 := by unfold cs; split <;> omega
              refine g_aload_n k rfl dX10_laysBegins_36 ?_
              refine g_get k 10 20 (C := RX10) (T := TX10) (N := 38) fl_X10_103 rfl wi_X10 (by decide) rfl hm__3 rfl dX10_laysBegins_37 ?_
              refine g_bipush k rfl dX10_laysBegins_40 ?_
              refine g_iload_n k rfl dX10_laysBegins_42 ?_
              refine g_imul k dX10_laysBegins_43 ?_
              refine g_iload_n k rfl dX10_laysBegins_44 ?_
              refine g_iadd k dX10_laysBegins_45 ?_
              refine g_iald k (u * 8 + v) hu__3 (by omega) (by omega) (by decide) dX10_laysBegins_46 ?_
              rw [show S2 (u * 8 + v) = cs ((str φ L it) (u * 8 + v)) from hval u v (by omega) (by omega)]
              refine g_aload_n k rfl dX10_laysBegins_47 ?_
              refine g_get k 10 32 (C := RX10) (T := TX10) (N := 38) fl_X10_118 rfl wi_X10 (by decide) rfl hm__3 rfl dX10_laysBegins_48 ?_
              refine g_iload_n k rfl dX10_laysBegins_51 ?_
              refine g_iald k v hg__3 (by omega) (by omega) (by decide) dX10_laysBegins_52 ?_
              rw [show B2 v = ely (str φ L it) v u from hcur]
              refine g_icmp_le k (tgt := 73) (by omega) (by omega) dX10_laysBegins_53 (by decide) (fun c53 => ?_) (fun c53 => ?_)
              · skip
                refine g_iinc k (lv2 := [(0, .ref m), (1, vi L), (2, vi (v : Int)), (3, vi ((u : Int) + 1))]) rfl (by decide) rfl rfl dX10_laysBegins_73 ?_
                refine g_goto k (tgt := 28) dX10_laysBegins_76 (by decide) ?_
                exact ih28 (u + 1) _ h28 hm__3 hn__3 hu__3 hg__3 fr__3 (by omega) (by rw [ely, if_neg (fun g => by have := hlt.mpr g; omega)]; exact hcur) hd2 (by omega)
              · skip
                refine g_aload_n k rfl dX10_laysBegins_56 ?_
                refine g_get k 10 32 (C := RX10) (T := TX10) (N := 38) fl_X10_118 rfl wi_X10 (by decide) rfl hm__3 rfl dX10_laysBegins_57 ?_
                refine g_iload_n k rfl dX10_laysBegins_60 ?_
                refine g_aload_n k rfl dX10_laysBegins_61 ?_
                refine g_get k 10 20 (C := RX10) (T := TX10) (N := 38) fl_X10_103 rfl wi_X10 (by decide) rfl hm__3 rfl dX10_laysBegins_62 ?_
                refine g_bipush k rfl dX10_laysBegins_65 ?_
                refine g_iload_n k rfl dX10_laysBegins_67 ?_
                refine g_imul k dX10_laysBegins_68 ?_
                refine g_iload_n k rfl dX10_laysBegins_69 ?_
                refine g_iadd k dX10_laysBegins_70 ?_
                refine g_iald k (u * 8 + v) hu__3 (by omega) (by omega) (by decide) dX10_laysBegins_71 ?_
                rw [show S2 (u * 8 + v) = cs ((str φ L it) (u * 8 + v)) from hval u v (by omega) (by omega)]
                refine g_iast k v hg__3 (by omega) (by omega) (by decide) dX10_laysBegins_72 (fun h72 eh72 => ?_)
                have hm__4 : h72 m = some (mo m s) := (congrFun eh72 _).trans ((hup_n (by omega)).trans hm__3)
                have hn__4 : h72 (m + 2) = some (ai G 86 N) := (congrFun eh72 _).trans ((hup_n (by omega)).trans hn__3)
                have hu__4 : h72 (m + 11) = some (ai G 64 S2) := (congrFun eh72 _).trans ((hup_n (by omega)).trans hu__3)
                have hg__4 : h72 (m + 15) = some (ai G 8 (fu B2 v (cs ((str φ L it) (u * 8 + v))))) := (congrFun eh72 _).trans hup_s
                have fr__4 : ∀ q : Nat, (q ≠ m + 11 ∧ q ≠ m + 15) → h72 q = h q := fun q hq => (congrFun eh72 q).trans ((hup_n (by omega)).trans (fr__3 q hq))
                refine g_iinc k (lv2 := [(0, .ref m), (1, vi L), (2, vi (v : Int)), (3, vi ((u : Int) + 1))]) rfl (by decide) rfl rfl dX10_laysBegins_73 ?_
                refine g_goto k (tgt := 28) dX10_laysBegins_76 (by decide) ?_
                exact ih28 (u + 1) _ h72 hm__4 hn__4 hu__4 hg__4 fr__4 (by omega) (by have g := hlt.mp (by omega); rw [fu_s, ely, if_pos g]; unfold cs; rw [if_neg (by omega)]) (fun j hj => (fu_n (by omega)).trans (hd2 j hj)) (by omega)
        exact K28 _ 0 _ h25 hm__2 hn__2 hu__2 hg__2 fr__2 (Nat.zero_le _) (fu_s.trans rfl) (fun j hj => (fu_n (by omega)).trans (hd j hj)) (Nat.lt_succ_self _)
  exact K11 _ 0 _ h6 hm_ hn_ hu_ hg_ fr_ (Nat.zero_le _) (fun j hj => absurd hj (Nat.not_lt_zero j)) (Nat.lt_succ_self _)

set_option maxHeartbeats 600000 in
set_option maxRecDepth 100000 in
theorem c_X10_isLength {G : Gx} {h : Hp} {nx : Nat} {m : Nat} {s : Nat → Int} (hm : h m = some (mo m s)) {N : Nat → Int} {it : Nat} {φ : Fs} (hn : h (m + 2) = some (ai G 86 N)) (hR : Rw N it φ) (hS : Sm it φ) {S : Nat → Int} (hu : h (m + 11) = some (ai G 64 S)) {L : Nat} (hL : isL φ it L) {p : Int} (rp : -2147483648 ≤ p ∧ p ≤ 2147483647) : Con G yX10_isLength cX10_isLength 2 (some .boolean) 5 0 0 [.ref m, vi p] h nx (PI fun z h' => bz (lyO φ it p) z ∧ (∃ S2 : Nat → Int, h' (m + 11) = some (ai G 64 S2)) ∧ ∀ q : Nat, q ≠ m + 11 → h' q = h q) := by
  obtain ⟨h8, h28, hsm⟩ := id hS
  have hli := lyO_iff hS hL (p := p)
  have hL2 := hL.2.1
  refine Con.of v_X10_isLength.2.2.2.2.2.1 (Nat.le_of_ble_eq_true rfl) (lv := [(0, .ref m), (1, vi p)]) rfl (fun X k => ?_)
  generalize hQQ : QM G X nx 0 0 _ = QQ
  have fr0 : ∀ q : Nat, q ≠ m + 11 → h q = h q := fun _ _ => rfl
  refine g_iload_n k rfl dX10_isLength_0 ?_
  refine g_aload_n k rfl dX10_isLength_1 ?_
  refine g_aload_n k rfl dX10_isLength_2 ?_
  refine g_get k 10 10 (C := RX10) (T := TX10) (N := 38) fl_X10_74 rfl wi_X10 (by decide) rfl hm rfl dX10_isLength_3 ?_
  refine g_cVi k 10 (As := [.ref (m + 2)]) v_X10_leastOf rfl rfl hm ml_X10_243 (c_X10_leastOf hm hn hR hS (by omega) hu hL) (by omega) (by omega) rfl (Nat.le_of_ble_eq_true rfl) rfl dX10_isLength_6 (fun r6 h6 p6 => ?_)
  obtain ⟨p6e, ⟨S2, nu⟩, nfr⟩ := p6
  subst p6e
  have hm_ : h6 m = some (mo m s) := (nfr _ (by omega)).trans hm
  have hn_ : h6 (m + 2) = some (ai G 86 N) := (nfr _ (by omega)).trans hn
  have hu_ : h6 (m + 11) = some (ai G 64 S2) := nu
  have fr_ : ∀ q : Nat, q ≠ m + 11 → h6 q = h q := fun q hq => (nfr q (by omega)).trans (fr0 q hq)
  refine g_bipush k rfl dX10_isLength_9 ?_
  refine g_cSi k (As := [vi p, vi (L : Int), vi 60]) v_X10_isIn ml_X10_224 (c_X10_isIn rp (by omega) (by omega)) (by omega) (by omega) rfl (Nat.le_of_ble_eq_true rfl) rfl dX10_isLength_11 (fun r11 h11 p11 => ?_)
  obtain ⟨eh11, p11⟩ := p11
  have eh11 := eh11.symm; subst eh11
  rw [← hQQ]
  refine g_zreti k p11.rg rfl dX10_isLength_14 ?_
  refine ⟨?_, ⟨S2, hu_⟩, fr_⟩
  rcases p11 with ⟨a1, a2⟩ | ⟨a1, a2⟩
  · exact Or.inl ⟨hli.mpr a1, a2⟩
  · exact Or.inr ⟨fun q => a1 (hli.mp q), a2⟩

set_option maxHeartbeats 600000 in
set_option maxRecDepth 100000 in
theorem c_X10_begin {G : Gx} {h : Hp} {nx m : Nat} {it : Nat} {φ : Fs} {ps : List (Nat × Fs)} {im : Nat → Option (Nat × Fs)} {V : RV} {n : Nat} {T : Nat → Int} {ft : Nat} (hM : MS G h m it φ ps im V n T ft) (hS : Sm it φ) {L : Nat} (hL : isL φ it L) {p p2 : Int} (rp : -2147483648 ≤ p ∧ p ≤ 2147483647) (rp2 : -2147483648 ≤ p2 ∧ p2 ≤ 2147483647) : Con G yX10_begin cX10_begin 3 (some .int) 6 0 0 [.ref m, vi p, vi p2] h nx (PI fun z h' => (((hasI it p ∧ lyO φ it p2) → z = ely (str φ p2 it) p.toNat it) ∧ (¬ (hasI it p ∧ lyO φ it p2) → z = -1)) ∧ MT G h' m 0 it φ ps im V n T ft ∧ ∀ q : Nat, (q < m ∨ m + 17 < q) → h' q = h q) := by
  obtain ⟨th, s, ⟨hm, cq1, cq2, cq3, cq4, cq5, cq6, cq7, cq8, cq9, cq10, cq11, cq12, cq13, cq14, cq15, cq16, cq17⟩, hsc, hth⟩ := hM
  obtain ⟨z1, z6, z9, z14, z17, z15, z16⟩ := id hsc
  obtain ⟨N, hn, hR⟩ := id cq2
  obtain ⟨S, hu⟩ := id cq11
  obtain ⟨Bg, hg⟩ := id cq15
  obtain ⟨h8, h28, hsm⟩ := id hS
  refine Con.of v_X10_begin.2.2.2.2.2.1 (Nat.le_of_ble_eq_true rfl) (lv := [(0, .ref m), (1, vi p), (2, vi p2)]) rfl (fun X k => ?_)
  generalize hQQ : QM G X nx 0 0 _ = QQ
  have fr0 : ∀ q : Nat, (q ≠ m ∧ q ≠ m + 11 ∧ q ≠ m + 15) → h q = h q := fun _ _ => rfl
  refine g_aload_n k rfl dX10_begin_0 ?_
  refine g_iconst k dX10_begin_1 ?_
  refine g_put k 10 0 (C := RX10) (T := TX10) (N := 38) fl_X10_1 rfl wi_X10 tyX10 tyX10_ok nmX10 (by decide) rfl rfl rfl rfl hm (Nat.le_of_ble_eq_true rfl) (fs2 := mol m (fu s 0 0)) rfl rfl dX10_begin_2 (fun h2 eh2 => ?_)
  have hm_ : h2 m = some (mo m (fu s 0 0)) := (congrFun eh2 _).trans hup_s
  have hn_ : h2 (m + 2) = some (ai G 86 N) := (congrFun eh2 _).trans ((hup_n (by omega)).trans hn)
  have hu_ : h2 (m + 11) = some (ai G 64 S) := (congrFun eh2 _).trans ((hup_n (by omega)).trans hu)
  have hg_ : h2 (m + 15) = some (ai G 8 Bg) := (congrFun eh2 _).trans ((hup_n (by omega)).trans hg)
  have fr_ : ∀ q : Nat, (q ≠ m ∧ q ≠ m + 11 ∧ q ≠ m + 15) → h2 q = h q := fun q hq => (congrFun eh2 q).trans ((hup_n (by omega)).trans (fr0 q hq))
  refine g_aload_n k rfl dX10_begin_5 ?_
  refine g_iload_n k rfl dX10_begin_6 ?_
  refine g_cVi k 10 (As := [vi p]) v_X10_isItem rfl rfl hm_ ml_X10_231 (c_X10_isItem hm_ hn_ hR hS rp) (by omega) (by omega) rfl (Nat.le_of_ble_eq_true rfl) rfl dX10_begin_7 (fun r7 h7 p7 => ?_)
  obtain ⟨eh7, p7⟩ := p7
  have eh7 := eh7.symm; subst eh7
  have q7 := p7
  have q7r := q7.r
  refine g_if_eq k (tgt := 21) (by omega) dX10_begin_10 (by decide) (fun c10 => ?_) (fun c10 => ?_)
  · skip
    refine g_iconst k dX10_begin_21 ?_
    rw [← hQQ]
    refine g_ireti k rfl dX10_begin_22 ?_
    exact ⟨⟨fun q => absurd q.1 (q7.f (by omega)), fun _ => rfl⟩, ⟨_, ⟨hm_, ((fr_ (m + 1) (by omega)).trans cq1), ⟨N, hn_, hR⟩, (by rw [fr_ (m + 3) (by omega)]; exact cq3), (by rw [fr_ (m + 4) (by omega)]; exact cq4), (by rw [fr_ (m + 5) (by omega)]; exact cq5), (by rw [fr_ (m + 6) (by omega)]; exact cq6), (by rw [fr_ (m + 7) (by omega)]; exact cq7), (by rw [fr_ (m + 8) (by omega)]; exact cq8), (by rw [fr_ (m + 9) (by omega)]; exact cq9), (by rw [fr_ (m + 10) (by omega)]; exact cq10), ⟨_, hu_⟩, (by rw [fr_ (m + 12) (by omega)]; exact cq12), (by rw [fr_ (m + 13) (by omega)]; exact cq13), (by rw [fr_ (m + 14) (by omega)]; exact cq14), ⟨_, hg_⟩, (by rw [fr_ (m + 16) (by omega)]; exact cq16), (by rw [fr_ (m + 17) (by omega)]; exact cq17)⟩, hsc, rfl⟩, (fun q hq => fr_ q (by omega))⟩
  · skip
    refine g_aload_n k rfl dX10_begin_13 ?_
    refine g_iload_n k rfl dX10_begin_14 ?_
    refine g_cVi k 10 (As := [vi p2]) v_X10_isLength rfl rfl hm_ ml_X10_259 (c_X10_isLength hm_ hn_ hR hS hu_ hL rp2) (by omega) (by omega) rfl (Nat.le_of_ble_eq_true rfl) rfl dX10_begin_15 (fun r15 h15 p15 => ?_)
    obtain ⟨q15, ⟨S15, nu15⟩, nfr15⟩ := p15
    have hm__1 : h15 m = some (mo m (fu s 0 0)) := (nfr15 _ (by omega)).trans hm_
    have hn__1 : h15 (m + 2) = some (ai G 86 N) := (nfr15 _ (by omega)).trans hn_
    have hu__1 : h15 (m + 11) = some (ai G 64 S15) := nu15
    have hg__1 : h15 (m + 15) = some (ai G 8 Bg) := (nfr15 _ (by omega)).trans hg_
    have fr__1 : ∀ q : Nat, (q ≠ m ∧ q ≠ m + 11 ∧ q ≠ m + 15) → h15 q = h q := fun q hq => (nfr15 q (by omega)).trans (fr_ q hq)
    have q15r := q15.r
    refine g_if_ne k (tgt := 23) (by omega) dX10_begin_18 (by decide) (fun c18 => ?_) (fun c18 => ?_)
    · skip
      have hly := q15.t (by omega)
      have hi := q7.t (by omega)
      have hi2 : 0 ≤ p ∧ p < it := hi
      refine g_aload_n k rfl dX10_begin_23 ?_
      refine g_iload_n k rfl dX10_begin_24 ?_
      refine g_cVv k 10 (As := [vi p2]) v_X10_laysBegins rfl rfl hm__1 ml_X10_262 (c_X10_laysBegins hm__1 hn__1 hR hS hu__1 hg__1 (L := p2) ⟨hly.1, hly.2.1⟩ hly.2.2) (by omega) (by omega) rfl (Nat.le_of_ble_eq_true rfl) rfl dX10_begin_25 (fun h25 p25 => ?_)
      obtain ⟨⟨S9, B9, nu9, ng9, hval, hBg⟩, nfr9⟩ := p25
      have hm__2 : h25 m = some (mo m (fu s 0 0)) := (nfr9 _ (by omega)).trans hm__1
      have hn__2 : h25 (m + 2) = some (ai G 86 N) := (nfr9 _ (by omega)).trans hn__1
      have hu__2 : h25 (m + 11) = some (ai G 64 S9) := nu9
      have hg__2 : h25 (m + 15) = some (ai G 8 B9) := ng9
      have fr__2 : ∀ q : Nat, (q ≠ m ∧ q ≠ m + 11 ∧ q ≠ m + 15) → h25 q = h q := fun q hq => (nfr9 q (by omega)).trans (fr__1 q hq)
      refine g_aload_n k rfl dX10_begin_28 ?_
      refine g_get k 10 32 (v := .ref (m + 15)) (C := RX10) (T := TX10) (N := 38) fl_X10_118 rfl wi_X10 (by decide) rfl hm__2 rfl dX10_begin_29 ?_
      refine g_iload_n k rfl dX10_begin_32 ?_
      refine g_iald k (p.toNat) hg__2 (by omega) (by omega) (by decide) dX10_begin_33 ?_
      rw [← hQQ]
      refine g_ireti k rfl dX10_begin_34 ?_
      exact ⟨⟨fun _ => hBg _ (by omega), fun q => absurd ⟨hi, hly⟩ q⟩, ⟨_, ⟨hm__2, ((fr__2 (m + 1) (by omega)).trans cq1), ⟨N, hn__2, hR⟩, (by rw [fr__2 (m + 3) (by omega)]; exact cq3), (by rw [fr__2 (m + 4) (by omega)]; exact cq4), (by rw [fr__2 (m + 5) (by omega)]; exact cq5), (by rw [fr__2 (m + 6) (by omega)]; exact cq6), (by rw [fr__2 (m + 7) (by omega)]; exact cq7), (by rw [fr__2 (m + 8) (by omega)]; exact cq8), (by rw [fr__2 (m + 9) (by omega)]; exact cq9), (by rw [fr__2 (m + 10) (by omega)]; exact cq10), ⟨_, hu__2⟩, (by rw [fr__2 (m + 12) (by omega)]; exact cq12), (by rw [fr__2 (m + 13) (by omega)]; exact cq13), (by rw [fr__2 (m + 14) (by omega)]; exact cq14), ⟨_, hg__2⟩, (by rw [fr__2 (m + 16) (by omega)]; exact cq16), (by rw [fr__2 (m + 17) (by omega)]; exact cq17)⟩, hsc, rfl⟩, (fun q hq => fr__2 q (by omega))⟩
    · skip
      refine g_iconst k dX10_begin_21 ?_
      rw [← hQQ]
      refine g_ireti k rfl dX10_begin_22 ?_
      exact ⟨⟨fun q => absurd q.2 (q15.f (by omega)), fun _ => rfl⟩, ⟨_, ⟨hm__1, ((fr__1 (m + 1) (by omega)).trans cq1), ⟨N, hn__1, hR⟩, (by rw [fr__1 (m + 3) (by omega)]; exact cq3), (by rw [fr__1 (m + 4) (by omega)]; exact cq4), (by rw [fr__1 (m + 5) (by omega)]; exact cq5), (by rw [fr__1 (m + 6) (by omega)]; exact cq6), (by rw [fr__1 (m + 7) (by omega)]; exact cq7), (by rw [fr__1 (m + 8) (by omega)]; exact cq8), (by rw [fr__1 (m + 9) (by omega)]; exact cq9), (by rw [fr__1 (m + 10) (by omega)]; exact cq10), ⟨_, hu__1⟩, (by rw [fr__1 (m + 12) (by omega)]; exact cq12), (by rw [fr__1 (m + 13) (by omega)]; exact cq13), (by rw [fr__1 (m + 14) (by omega)]; exact cq14), ⟨_, hg__1⟩, (by rw [fr__1 (m + 16) (by omega)]; exact cq16), (by rw [fr__1 (m + 17) (by omega)]; exact cq17)⟩, hsc, rfl⟩, (fun q hq => fr__1 q (by omega))⟩

set_option maxHeartbeats 600000 in
set_option maxRecDepth 100000 in
theorem c_X10_gap {G : Gx} {h : Hp} {nx m : Nat} {it : Nat} {φ : Fs} {ps : List (Nat × Fs)} {im : Nat → Option (Nat × Fs)} {V : RV} {n : Nat} {T : Nat → Int} {ft : Nat} (hM : MS G h m it φ ps im V n T ft) (hS : Sm it φ) {L : Nat} (hL : isL φ it L) {p p2 p3 p4 : Int} (rp : -2147483648 ≤ p ∧ p ≤ 2147483647) (rp2 : -2147483648 ≤ p2 ∧ p2 ≤ 2147483647) (rp3 : -2147483648 ≤ p3 ∧ p3 ≤ 2147483647) (rp4 : -2147483648 ≤ p4 ∧ p4 ≤ 2147483647) : Con G yX10_gap cX10_gap 6 (some .int) 6 0 0 [.ref m, vi p, vi p2, vi p3, vi p4] h nx (PI fun z h' => (((hasI it p ∧ hasI it p2 ∧ (0 ≤ p4 ∧ p4 ≤ 1) ∧ lyO φ it p3) → z = gpF (str φ p3 it) p.toNat p2.toNat p4) ∧ (¬ (hasI it p ∧ hasI it p2 ∧ (0 ≤ p4 ∧ p4 ≤ 1) ∧ lyO φ it p3) → z = -1000000)) ∧ MT G h' m 0 it φ ps im V n T ft ∧ ∀ q : Nat, (q < m ∨ m + 17 < q) → h' q = h q) := by
  obtain ⟨th, s, ⟨hm, cq1, cq2, cq3, cq4, cq5, cq6, cq7, cq8, cq9, cq10, cq11, cq12, cq13, cq14, cq15, cq16, cq17⟩, hsc, hth⟩ := hM
  obtain ⟨z1, z6, z9, z14, z17, z15, z16⟩ := id hsc
  obtain ⟨N, hn, hR⟩ := id cq2
  obtain ⟨S, hu⟩ := id cq11
  obtain ⟨h8, h28, hsm⟩ := id hS
  refine Con.of v_X10_gap.2.2.2.2.2.1 (Nat.le_of_ble_eq_true rfl) (lv := [(0, .ref m), (1, vi p), (2, vi p2), (3, vi p3), (4, vi p4)]) rfl (fun X k => ?_)
  generalize hQQ : QM G X nx 0 0 _ = QQ
  have fr0 : ∀ q : Nat, (q ≠ m ∧ q ≠ m + 11) → h q = h q := fun _ _ => rfl
  refine g_aload_n k rfl dX10_gap_0 ?_
  refine g_iconst k dX10_gap_1 ?_
  refine g_put k 10 0 (C := RX10) (T := TX10) (N := 38) fl_X10_1 rfl wi_X10 tyX10 tyX10_ok nmX10 (by decide) rfl rfl rfl rfl hm (Nat.le_of_ble_eq_true rfl) (fs2 := mol m (fu s 0 0)) rfl rfl dX10_gap_2 (fun h2 eh2 => ?_)
  have hm_ : h2 m = some (mo m (fu s 0 0)) := (congrFun eh2 _).trans hup_s
  have hn_ : h2 (m + 2) = some (ai G 86 N) := (congrFun eh2 _).trans ((hup_n (by omega)).trans hn)
  have hu_ : h2 (m + 11) = some (ai G 64 S) := (congrFun eh2 _).trans ((hup_n (by omega)).trans hu)
  have fr_ : ∀ q : Nat, (q ≠ m ∧ q ≠ m + 11) → h2 q = h q := fun q hq => (congrFun eh2 q).trans ((hup_n (by omega)).trans (fr0 q hq))
  refine g_aload_n k rfl dX10_gap_5 ?_
  refine g_iload_n k rfl dX10_gap_6 ?_
  refine g_cVi k 10 (As := [vi p]) v_X10_isItem rfl rfl hm_ ml_X10_231 (c_X10_isItem hm_ hn_ hR hS rp) (by omega) (by omega) rfl (Nat.le_of_ble_eq_true rfl) rfl dX10_gap_7 (fun r7 h7 p7 => ?_)
  obtain ⟨eh7, p7⟩ := p7
  have eh7 := eh7.symm; subst eh7
  have q7 := p7
  have q7r := q7.r
  refine g_if_eq k (tgt := 39) (by omega) dX10_gap_10 (by decide) (fun c10 => ?_) (fun c10 => ?_)
  · skip
    refine g_ldcw k (z := (-1000000)) cn_X10_265 rfl dX10_gap_39 ?_
    rw [← hQQ]
    refine g_ireti k rfl dX10_gap_42 ?_
    exact ⟨⟨fun q => absurd q.1 (q7.f (by omega)), fun _ => rfl⟩, ⟨_, ⟨hm_, ((fr_ (m + 1) (by omega)).trans cq1), ⟨N, hn_, hR⟩, (by rw [fr_ (m + 3) (by omega)]; exact cq3), (by rw [fr_ (m + 4) (by omega)]; exact cq4), (by rw [fr_ (m + 5) (by omega)]; exact cq5), (by rw [fr_ (m + 6) (by omega)]; exact cq6), (by rw [fr_ (m + 7) (by omega)]; exact cq7), (by rw [fr_ (m + 8) (by omega)]; exact cq8), (by rw [fr_ (m + 9) (by omega)]; exact cq9), (by rw [fr_ (m + 10) (by omega)]; exact cq10), ⟨_, hu_⟩, (by rw [fr_ (m + 12) (by omega)]; exact cq12), (by rw [fr_ (m + 13) (by omega)]; exact cq13), (by rw [fr_ (m + 14) (by omega)]; exact cq14), (by rw [fr_ (m + 15) (by omega)]; exact cq15), (by rw [fr_ (m + 16) (by omega)]; exact cq16), (by rw [fr_ (m + 17) (by omega)]; exact cq17)⟩, hsc, rfl⟩, (fun q hq => fr_ q (by omega))⟩
  · skip
    refine g_aload_n k rfl dX10_gap_13 ?_
    refine g_iload_n k rfl dX10_gap_14 ?_
    refine g_cVi k 10 (As := [vi p2]) v_X10_isItem rfl rfl hm_ ml_X10_231 (c_X10_isItem hm_ hn_ hR hS rp2) (by omega) (by omega) rfl (Nat.le_of_ble_eq_true rfl) rfl dX10_gap_15 (fun r15 h15 p15 => ?_)
    obtain ⟨eh15, p15⟩ := p15
    have eh15 := eh15.symm; subst eh15
    have q15 := p15
    have q15r := q15.r
    refine g_if_eq k (tgt := 39) (by omega) dX10_gap_18 (by decide) (fun c18 => ?_) (fun c18 => ?_)
    · skip
      refine g_ldcw k (z := (-1000000)) cn_X10_265 rfl dX10_gap_39 ?_
      rw [← hQQ]
      refine g_ireti k rfl dX10_gap_42 ?_
      exact ⟨⟨fun q => absurd q.2.1 (q15.f (by omega)), fun _ => rfl⟩, ⟨_, ⟨hm_, ((fr_ (m + 1) (by omega)).trans cq1), ⟨N, hn_, hR⟩, (by rw [fr_ (m + 3) (by omega)]; exact cq3), (by rw [fr_ (m + 4) (by omega)]; exact cq4), (by rw [fr_ (m + 5) (by omega)]; exact cq5), (by rw [fr_ (m + 6) (by omega)]; exact cq6), (by rw [fr_ (m + 7) (by omega)]; exact cq7), (by rw [fr_ (m + 8) (by omega)]; exact cq8), (by rw [fr_ (m + 9) (by omega)]; exact cq9), (by rw [fr_ (m + 10) (by omega)]; exact cq10), ⟨_, hu_⟩, (by rw [fr_ (m + 12) (by omega)]; exact cq12), (by rw [fr_ (m + 13) (by omega)]; exact cq13), (by rw [fr_ (m + 14) (by omega)]; exact cq14), (by rw [fr_ (m + 15) (by omega)]; exact cq15), (by rw [fr_ (m + 16) (by omega)]; exact cq16), (by rw [fr_ (m + 17) (by omega)]; exact cq17)⟩, hsc, rfl⟩, (fun q hq => fr_ q (by omega))⟩
    · skip
      refine g_aload_n k rfl dX10_gap_21 ?_
      refine g_iload_n k rfl dX10_gap_22 ?_
      refine g_cVi k 10 (As := [vi p3]) v_X10_isLength rfl rfl hm_ ml_X10_259 (c_X10_isLength hm_ hn_ hR hS hu_ hL rp3) (by omega) (by omega) rfl (Nat.le_of_ble_eq_true rfl) rfl dX10_gap_23 (fun r23 h23 p23 => ?_)
      obtain ⟨q23, ⟨S23, nu23⟩, nfr23⟩ := p23
      have hm__1 : h23 m = some (mo m (fu s 0 0)) := (nfr23 _ (by omega)).trans hm_
      have hn__1 : h23 (m + 2) = some (ai G 86 N) := (nfr23 _ (by omega)).trans hn_
      have hu__1 : h23 (m + 11) = some (ai G 64 S23) := nu23
      have fr__1 : ∀ q : Nat, (q ≠ m ∧ q ≠ m + 11) → h23 q = h q := fun q hq => (nfr23 q (by omega)).trans (fr_ q hq)
      have q23r := q23.r
      refine g_if_eq k (tgt := 39) (by omega) dX10_gap_26 (by decide) (fun c26 => ?_) (fun c26 => ?_)
      · skip
        refine g_ldcw k (z := (-1000000)) cn_X10_265 rfl dX10_gap_39 ?_
        rw [← hQQ]
        refine g_ireti k rfl dX10_gap_42 ?_
        exact ⟨⟨fun q => absurd q.2.2.2 (q23.f (by omega)), fun _ => rfl⟩, ⟨_, ⟨hm__1, ((fr__1 (m + 1) (by omega)).trans cq1), ⟨N, hn__1, hR⟩, (by rw [fr__1 (m + 3) (by omega)]; exact cq3), (by rw [fr__1 (m + 4) (by omega)]; exact cq4), (by rw [fr__1 (m + 5) (by omega)]; exact cq5), (by rw [fr__1 (m + 6) (by omega)]; exact cq6), (by rw [fr__1 (m + 7) (by omega)]; exact cq7), (by rw [fr__1 (m + 8) (by omega)]; exact cq8), (by rw [fr__1 (m + 9) (by omega)]; exact cq9), (by rw [fr__1 (m + 10) (by omega)]; exact cq10), ⟨_, hu__1⟩, (by rw [fr__1 (m + 12) (by omega)]; exact cq12), (by rw [fr__1 (m + 13) (by omega)]; exact cq13), (by rw [fr__1 (m + 14) (by omega)]; exact cq14), (by rw [fr__1 (m + 15) (by omega)]; exact cq15), (by rw [fr__1 (m + 16) (by omega)]; exact cq16), (by rw [fr__1 (m + 17) (by omega)]; exact cq17)⟩, hsc, rfl⟩, (fun q hq => fr__1 q (by omega))⟩
      · skip
        refine g_iload k rfl dX10_gap_29 ?_
        refine g_iconst k dX10_gap_31 ?_
        refine g_iconst k dX10_gap_32 ?_
        refine g_cSi k (As := [vi p4, vi 0, vi 1]) v_X10_isIn ml_X10_224 (c_X10_isIn rp4 (by omega) (by omega)) (by omega) (by omega) rfl (Nat.le_of_ble_eq_true rfl) rfl dX10_gap_33 (fun r33 h33 p33 => ?_)
        obtain ⟨eh33, p33⟩ := p33
        have eh33 := eh33.symm; subst eh33
        have q33 := p33
        have q33r := q33.r
        refine g_if_ne k (tgt := 43) (by omega) dX10_gap_36 (by decide) (fun c36 => ?_) (fun c36 => ?_)
        · skip
          have hly := q23.t (by omega)
          have hly3 : 1 ≤ p3 ∧ p3 ≤ 60 := ⟨hly.1, hly.2.1⟩
          have hi := q7.t (by omega)
          have hj := q15.t (by omega)
          have hw := q33.t (by omega)
          have hi2 : 0 ≤ p ∧ p < it := hi
          have hj2 : 0 ≤ p2 ∧ p2 < it := hj
          refine g_aload_n k rfl dX10_gap_43 ?_
          refine g_aload_n k rfl dX10_gap_44 ?_
          refine g_get k 10 10 (v := .ref (m + 2)) (C := RX10) (T := TX10) (N := 38) fl_X10_74 rfl wi_X10 (by decide) rfl hm__1 rfl dX10_gap_45 ?_
          refine g_iload_n k rfl dX10_gap_48 ?_
          refine g_cVv k 10 (As := [.ref (m + 2), vi p3]) v_X10_laysSteps rfl rfl hm__1 ml_X10_179 (c_X10_laysSteps hm__1 hn__1 hR hS (by omega) hu__1 (L := p3) (by omega)) (by omega) (by omega) rfl (Nat.le_of_ble_eq_true rfl) rfl dX10_gap_49 (fun h49 p49 => ?_)
          obtain ⟨⟨S9, nu9, hP⟩, nfr9⟩ := p49
          have hm__2 : h49 m = some (mo m (fu s 0 0)) := (nfr9 _ (by omega)).trans hm__1
          have hn__2 : h49 (m + 2) = some (ai G 86 N) := (nfr9 _ (by omega)).trans hn__1
          have hu__2 : h49 (m + 11) = some (ai G 64 S9) := nu9
          have fr__2 : ∀ q : Nat, (q ≠ m ∧ q ≠ m + 11) → h49 q = h q := fun q hq => (nfr9 q (by omega)).trans (fr__1 q hq)
          have hst := FwP.st hS hly3 (by rw [wM_0 hly3.1, wM_1 hly3.1] at hP; exact hP)
          have hval := hst.2.2 hly.2.2
          have hbd := str_bd (φ := φ) h8 hly3
          have hba := hbd (p.toNat * 8 + p2.toNat) (by omega)
          have hbb := hbd (p2.toNat * 8 + p.toNat) (by omega)
          have hca : ((str φ p3 it) (p.toNat * 8 + p2.toNat) = -1000000000 ∧ cs ((str φ p3 it) (p.toNat * 8 + p2.toNat)) = -100000) ∨ ((str φ p3 it) (p.toNat * 8 + p2.toNat) ≠ -1000000000 ∧ cs ((str φ p3 it) (p.toNat * 8 + p2.toNat)) = (str φ p3 it) (p.toNat * 8 + p2.toNat)) := by unfold cs; split <;> omega
          have hcb : ((str φ p3 it) (p2.toNat * 8 + p.toNat) = -1000000000 ∧ cs ((str φ p3 it) (p2.toNat * 8 + p.toNat)) = -100000) ∨ ((str φ p3 it) (p2.toNat * 8 + p.toNat) ≠ -1000000000 ∧ cs ((str φ p3 it) (p2.toNat * 8 + p.toNat)) = (str φ p3 it) (p2.toNat * 8 + p.toNat)) := by unfold cs; split <;> omega
          refine g_iload k rfl dX10_gap_52 ?_
          refine g_if_ne k (tgt := 71) (by omega) dX10_gap_54 (by decide) (fun c54 => ?_) (fun c54 => ?_)
          · skip
            refine g_aload_n k rfl dX10_gap_71 ?_
            refine g_get k 10 20 (v := .ref (m + 11)) (C := RX10) (T := TX10) (N := 38) fl_X10_103 rfl wi_X10 (by decide) rfl hm__2 rfl dX10_gap_72 ?_
            refine g_bipush k rfl dX10_gap_75 ?_
            refine g_iload_n k rfl dX10_gap_77 ?_
            refine g_imul k dX10_gap_78 ?_
            refine g_iload_n k rfl dX10_gap_79 ?_
            refine g_iadd k dX10_gap_80 ?_
            refine g_iald k (p2.toNat * 8 + p.toNat) hu__2 (by omega) (by omega) (by decide) dX10_gap_81 ?_
            rw [show S9 (p2.toNat * 8 + p.toNat) = cs ((str φ p3 it) (p2.toNat * 8 + p.toNat)) from hval _ _ (by omega) (by omega)]
            refine g_istore k (lv2 := [(0, .ref m), (1, vi p), (2, vi p2), (3, vi p3), (4, vi p4), (5, vi (cs ((str φ p3 it) (p2.toNat * 8 + p.toNat))))]) (by decide) rfl rfl dX10_gap_82 ?_
            refine g_iload k rfl dX10_gap_84 ?_
            refine g_ldc k (z := (-100000)) cn_X10_170 rfl dX10_gap_86 ?_
            refine g_icmp_ne k (tgt := 97) (by omega) (by omega) dX10_gap_88 (by decide) (fun c88 => ?_) (fun c88 => ?_)
            · skip
              refine g_iload k rfl dX10_gap_97 ?_
              refine g_if_ne k (tgt := 107) (by omega) dX10_gap_99 (by decide) (fun c99 => ?_) (fun c99 => ?_)
              · skip
                refine g_iload k rfl dX10_gap_107 ?_
                refine g_ineg k dX10_gap_109 ?_
                rw [← hQQ]
                refine g_ireti k rfl dX10_gap_110 ?_
                refine ⟨⟨fun _ => ?_, fun q => absurd ⟨hi, hj, hw, hly⟩ q⟩, ⟨_, ⟨hm__2, ((fr__2 (m + 1) (by omega)).trans cq1), ⟨N, hn__2, hR⟩, (by rw [fr__2 (m + 3) (by omega)]; exact cq3), (by rw [fr__2 (m + 4) (by omega)]; exact cq4), (by rw [fr__2 (m + 5) (by omega)]; exact cq5), (by rw [fr__2 (m + 6) (by omega)]; exact cq6), (by rw [fr__2 (m + 7) (by omega)]; exact cq7), (by rw [fr__2 (m + 8) (by omega)]; exact cq8), (by rw [fr__2 (m + 9) (by omega)]; exact cq9), (by rw [fr__2 (m + 10) (by omega)]; exact cq10), ⟨_, hu__2⟩, (by rw [fr__2 (m + 12) (by omega)]; exact cq12), (by rw [fr__2 (m + 13) (by omega)]; exact cq13), (by rw [fr__2 (m + 14) (by omega)]; exact cq14), (by rw [fr__2 (m + 15) (by omega)]; exact cq15), (by rw [fr__2 (m + 16) (by omega)]; exact cq16), (by rw [fr__2 (m + 17) (by omega)]; exact cq17)⟩, hsc, rfl⟩, (fun q hq => fr__2 q (by omega))⟩
                unfold gpF
                by_cases g4 : p4 = 0
                · rw [if_pos g4, if_pos g4]; split <;> omega
                · rw [if_neg g4, if_neg g4]; split <;> omega
              · skip
                refine g_iload k rfl dX10_gap_102 ?_
                refine g_goto k (tgt := 110) dX10_gap_104 (by decide) ?_
                rw [← hQQ]
                refine g_ireti k rfl dX10_gap_110 ?_
                refine ⟨⟨fun _ => ?_, fun q => absurd ⟨hi, hj, hw, hly⟩ q⟩, ⟨_, ⟨hm__2, ((fr__2 (m + 1) (by omega)).trans cq1), ⟨N, hn__2, hR⟩, (by rw [fr__2 (m + 3) (by omega)]; exact cq3), (by rw [fr__2 (m + 4) (by omega)]; exact cq4), (by rw [fr__2 (m + 5) (by omega)]; exact cq5), (by rw [fr__2 (m + 6) (by omega)]; exact cq6), (by rw [fr__2 (m + 7) (by omega)]; exact cq7), (by rw [fr__2 (m + 8) (by omega)]; exact cq8), (by rw [fr__2 (m + 9) (by omega)]; exact cq9), (by rw [fr__2 (m + 10) (by omega)]; exact cq10), ⟨_, hu__2⟩, (by rw [fr__2 (m + 12) (by omega)]; exact cq12), (by rw [fr__2 (m + 13) (by omega)]; exact cq13), (by rw [fr__2 (m + 14) (by omega)]; exact cq14), (by rw [fr__2 (m + 15) (by omega)]; exact cq15), (by rw [fr__2 (m + 16) (by omega)]; exact cq16), (by rw [fr__2 (m + 17) (by omega)]; exact cq17)⟩, hsc, rfl⟩, (fun q hq => fr__2 q (by omega))⟩
                unfold gpF
                by_cases g4 : p4 = 0
                · rw [if_pos g4, if_pos g4]; split <;> omega
                · rw [if_neg g4, if_neg g4]; split <;> omega
            · skip
              refine g_ldcw k (z := (-1000000)) cn_X10_265 rfl dX10_gap_91 ?_
              refine g_goto k (tgt := 110) dX10_gap_94 (by decide) ?_
              rw [← hQQ]
              refine g_ireti k rfl dX10_gap_110 ?_
              refine ⟨⟨fun _ => ?_, fun q => absurd ⟨hi, hj, hw, hly⟩ q⟩, ⟨_, ⟨hm__2, ((fr__2 (m + 1) (by omega)).trans cq1), ⟨N, hn__2, hR⟩, (by rw [fr__2 (m + 3) (by omega)]; exact cq3), (by rw [fr__2 (m + 4) (by omega)]; exact cq4), (by rw [fr__2 (m + 5) (by omega)]; exact cq5), (by rw [fr__2 (m + 6) (by omega)]; exact cq6), (by rw [fr__2 (m + 7) (by omega)]; exact cq7), (by rw [fr__2 (m + 8) (by omega)]; exact cq8), (by rw [fr__2 (m + 9) (by omega)]; exact cq9), (by rw [fr__2 (m + 10) (by omega)]; exact cq10), ⟨_, hu__2⟩, (by rw [fr__2 (m + 12) (by omega)]; exact cq12), (by rw [fr__2 (m + 13) (by omega)]; exact cq13), (by rw [fr__2 (m + 14) (by omega)]; exact cq14), (by rw [fr__2 (m + 15) (by omega)]; exact cq15), (by rw [fr__2 (m + 16) (by omega)]; exact cq16), (by rw [fr__2 (m + 17) (by omega)]; exact cq17)⟩, hsc, rfl⟩, (fun q hq => fr__2 q (by omega))⟩
              unfold gpF
              by_cases g4 : p4 = 0
              · rw [if_pos g4, if_pos g4]; split <;> omega
              · rw [if_neg g4, if_neg g4]; split <;> omega
          · skip
            refine g_aload_n k rfl dX10_gap_57 ?_
            refine g_get k 10 20 (v := .ref (m + 11)) (C := RX10) (T := TX10) (N := 38) fl_X10_103 rfl wi_X10 (by decide) rfl hm__2 rfl dX10_gap_58 ?_
            refine g_bipush k rfl dX10_gap_61 ?_
            refine g_iload_n k rfl dX10_gap_63 ?_
            refine g_imul k dX10_gap_64 ?_
            refine g_iload_n k rfl dX10_gap_65 ?_
            refine g_iadd k dX10_gap_66 ?_
            refine g_iald k (p.toNat * 8 + p2.toNat) hu__2 (by omega) (by omega) (by decide) dX10_gap_67 ?_
            rw [show S9 (p.toNat * 8 + p2.toNat) = cs ((str φ p3 it) (p.toNat * 8 + p2.toNat)) from hval _ _ (by omega) (by omega)]
            refine g_goto k (tgt := 82) dX10_gap_68 (by decide) ?_
            refine g_istore k (lv2 := [(0, .ref m), (1, vi p), (2, vi p2), (3, vi p3), (4, vi p4), (5, vi (cs ((str φ p3 it) (p.toNat * 8 + p2.toNat))))]) (by decide) rfl rfl dX10_gap_82 ?_
            refine g_iload k rfl dX10_gap_84 ?_
            refine g_ldc k (z := (-100000)) cn_X10_170 rfl dX10_gap_86 ?_
            refine g_icmp_ne k (tgt := 97) (by omega) (by omega) dX10_gap_88 (by decide) (fun c88_1 => ?_) (fun c88_1 => ?_)
            · skip
              refine g_iload k rfl dX10_gap_97 ?_
              refine g_if_ne k (tgt := 107) (by omega) dX10_gap_99 (by decide) (fun c99_1 => ?_) (fun c99_1 => ?_)
              · skip
                refine g_iload k rfl dX10_gap_107 ?_
                refine g_ineg k dX10_gap_109 ?_
                rw [← hQQ]
                refine g_ireti k rfl dX10_gap_110 ?_
                refine ⟨⟨fun _ => ?_, fun q => absurd ⟨hi, hj, hw, hly⟩ q⟩, ⟨_, ⟨hm__2, ((fr__2 (m + 1) (by omega)).trans cq1), ⟨N, hn__2, hR⟩, (by rw [fr__2 (m + 3) (by omega)]; exact cq3), (by rw [fr__2 (m + 4) (by omega)]; exact cq4), (by rw [fr__2 (m + 5) (by omega)]; exact cq5), (by rw [fr__2 (m + 6) (by omega)]; exact cq6), (by rw [fr__2 (m + 7) (by omega)]; exact cq7), (by rw [fr__2 (m + 8) (by omega)]; exact cq8), (by rw [fr__2 (m + 9) (by omega)]; exact cq9), (by rw [fr__2 (m + 10) (by omega)]; exact cq10), ⟨_, hu__2⟩, (by rw [fr__2 (m + 12) (by omega)]; exact cq12), (by rw [fr__2 (m + 13) (by omega)]; exact cq13), (by rw [fr__2 (m + 14) (by omega)]; exact cq14), (by rw [fr__2 (m + 15) (by omega)]; exact cq15), (by rw [fr__2 (m + 16) (by omega)]; exact cq16), (by rw [fr__2 (m + 17) (by omega)]; exact cq17)⟩, hsc, rfl⟩, (fun q hq => fr__2 q (by omega))⟩
                unfold gpF
                by_cases g4 : p4 = 0
                · rw [if_pos g4, if_pos g4]; split <;> omega
                · rw [if_neg g4, if_neg g4]; split <;> omega
              · skip
                refine g_iload k rfl dX10_gap_102 ?_
                refine g_goto k (tgt := 110) dX10_gap_104 (by decide) ?_
                rw [← hQQ]
                refine g_ireti k rfl dX10_gap_110 ?_
                refine ⟨⟨fun _ => ?_, fun q => absurd ⟨hi, hj, hw, hly⟩ q⟩, ⟨_, ⟨hm__2, ((fr__2 (m + 1) (by omega)).trans cq1), ⟨N, hn__2, hR⟩, (by rw [fr__2 (m + 3) (by omega)]; exact cq3), (by rw [fr__2 (m + 4) (by omega)]; exact cq4), (by rw [fr__2 (m + 5) (by omega)]; exact cq5), (by rw [fr__2 (m + 6) (by omega)]; exact cq6), (by rw [fr__2 (m + 7) (by omega)]; exact cq7), (by rw [fr__2 (m + 8) (by omega)]; exact cq8), (by rw [fr__2 (m + 9) (by omega)]; exact cq9), (by rw [fr__2 (m + 10) (by omega)]; exact cq10), ⟨_, hu__2⟩, (by rw [fr__2 (m + 12) (by omega)]; exact cq12), (by rw [fr__2 (m + 13) (by omega)]; exact cq13), (by rw [fr__2 (m + 14) (by omega)]; exact cq14), (by rw [fr__2 (m + 15) (by omega)]; exact cq15), (by rw [fr__2 (m + 16) (by omega)]; exact cq16), (by rw [fr__2 (m + 17) (by omega)]; exact cq17)⟩, hsc, rfl⟩, (fun q hq => fr__2 q (by omega))⟩
                unfold gpF
                by_cases g4 : p4 = 0
                · rw [if_pos g4, if_pos g4]; split <;> omega
                · rw [if_neg g4, if_neg g4]; split <;> omega
            · skip
              refine g_ldcw k (z := (-1000000)) cn_X10_265 rfl dX10_gap_91 ?_
              refine g_goto k (tgt := 110) dX10_gap_94 (by decide) ?_
              rw [← hQQ]
              refine g_ireti k rfl dX10_gap_110 ?_
              refine ⟨⟨fun _ => ?_, fun q => absurd ⟨hi, hj, hw, hly⟩ q⟩, ⟨_, ⟨hm__2, ((fr__2 (m + 1) (by omega)).trans cq1), ⟨N, hn__2, hR⟩, (by rw [fr__2 (m + 3) (by omega)]; exact cq3), (by rw [fr__2 (m + 4) (by omega)]; exact cq4), (by rw [fr__2 (m + 5) (by omega)]; exact cq5), (by rw [fr__2 (m + 6) (by omega)]; exact cq6), (by rw [fr__2 (m + 7) (by omega)]; exact cq7), (by rw [fr__2 (m + 8) (by omega)]; exact cq8), (by rw [fr__2 (m + 9) (by omega)]; exact cq9), (by rw [fr__2 (m + 10) (by omega)]; exact cq10), ⟨_, hu__2⟩, (by rw [fr__2 (m + 12) (by omega)]; exact cq12), (by rw [fr__2 (m + 13) (by omega)]; exact cq13), (by rw [fr__2 (m + 14) (by omega)]; exact cq14), (by rw [fr__2 (m + 15) (by omega)]; exact cq15), (by rw [fr__2 (m + 16) (by omega)]; exact cq16), (by rw [fr__2 (m + 17) (by omega)]; exact cq17)⟩, hsc, rfl⟩, (fun q hq => fr__2 q (by omega))⟩
              unfold gpF
              by_cases g4 : p4 = 0
              · rw [if_pos g4, if_pos g4]; split <;> omega
              · rw [if_neg g4, if_neg g4]; split <;> omega
        · skip
          refine g_ldcw k (z := (-1000000)) cn_X10_265 rfl dX10_gap_39 ?_
          rw [← hQQ]
          refine g_ireti k rfl dX10_gap_42 ?_
          exact ⟨⟨fun q => absurd q.2.2.1 (q33.f (by omega)), fun _ => rfl⟩, ⟨_, ⟨hm__1, ((fr__1 (m + 1) (by omega)).trans cq1), ⟨N, hn__1, hR⟩, (by rw [fr__1 (m + 3) (by omega)]; exact cq3), (by rw [fr__1 (m + 4) (by omega)]; exact cq4), (by rw [fr__1 (m + 5) (by omega)]; exact cq5), (by rw [fr__1 (m + 6) (by omega)]; exact cq6), (by rw [fr__1 (m + 7) (by omega)]; exact cq7), (by rw [fr__1 (m + 8) (by omega)]; exact cq8), (by rw [fr__1 (m + 9) (by omega)]; exact cq9), (by rw [fr__1 (m + 10) (by omega)]; exact cq10), ⟨_, hu__1⟩, (by rw [fr__1 (m + 12) (by omega)]; exact cq12), (by rw [fr__1 (m + 13) (by omega)]; exact cq13), (by rw [fr__1 (m + 14) (by omega)]; exact cq14), (by rw [fr__1 (m + 15) (by omega)]; exact cq15), (by rw [fr__1 (m + 16) (by omega)]; exact cq16), (by rw [fr__1 (m + 17) (by omega)]; exact cq17)⟩, hsc, rfl⟩, (fun q hq => fr__1 q (by omega))⟩

set_option maxHeartbeats 600000 in
set_option maxRecDepth 100000 in
theorem c_X10_tight {G : Gx} {h : Hp} {nx m : Nat} {it : Nat} {φ : Fs} {ps : List (Nat × Fs)} {im : Nat → Option (Nat × Fs)} {V : RV} {n : Nat} {T : Nat → Int} {ft : Nat} (hM : MS G h m it φ ps im V n T ft) (hS : Sm it φ) {L : Nat} (hL : isL φ it L) {p : Int} (rp : -2147483648 ≤ p ∧ p ≤ 2147483647) : Con G yX10_tight cX10_tight 6 (some .int) 6 0 0 [.ref m, vi p] h nx (PI fun z h' => ((lyO φ it p → z = (bF (tgP φ (str φ p it) it p) φ.length : Nat)) ∧ (¬ lyO φ it p → z = -1)) ∧ MT G h' m 0 it φ ps im V n T ft ∧ ∀ q : Nat, (q < m ∨ m + 17 < q) → h' q = h q) := by
  obtain ⟨th, s, ⟨hm, cq1, cq2, cq3, cq4, cq5, cq6, cq7, cq8, cq9, cq10, cq11, cq12, cq13, cq14, cq15, cq16, cq17⟩, hsc, hth⟩ := hM
  obtain ⟨z1, z6, z9, z14, z17, z15, z16⟩ := id hsc
  obtain ⟨N, hn, hR⟩ := id cq2
  obtain ⟨S, hu⟩ := id cq11
  obtain ⟨Bg, hg⟩ := id cq15
  obtain ⟨h8, h28, hsm⟩ := id hS
  refine Con.of v_X10_tight.2.2.2.2.2.1 (Nat.le_of_ble_eq_true rfl) (lv := [(0, .ref m), (1, vi p)]) rfl (fun X k => ?_)
  generalize hQQ : QM G X nx 0 0 _ = QQ
  have fr0 : ∀ q : Nat, (q ≠ m ∧ q ≠ m + 11 ∧ q ≠ m + 15) → h q = h q := fun _ _ => rfl
  refine g_aload_n k rfl dX10_tight_0 ?_
  refine g_iconst k dX10_tight_1 ?_
  refine g_put k 10 0 (C := RX10) (T := TX10) (N := 38) fl_X10_1 rfl wi_X10 tyX10 tyX10_ok nmX10 (by decide) rfl rfl rfl rfl hm (Nat.le_of_ble_eq_true rfl) (fs2 := mol m (fu s 0 0)) rfl rfl dX10_tight_2 (fun h2 eh2 => ?_)
  have hm_ : h2 m = some (mo m (fu s 0 0)) := (congrFun eh2 _).trans hup_s
  have hn_ : h2 (m + 2) = some (ai G 86 N) := (congrFun eh2 _).trans ((hup_n (by omega)).trans hn)
  have hu_ : h2 (m + 11) = some (ai G 64 S) := (congrFun eh2 _).trans ((hup_n (by omega)).trans hu)
  have hg_ : h2 (m + 15) = some (ai G 8 Bg) := (congrFun eh2 _).trans ((hup_n (by omega)).trans hg)
  have fr_ : ∀ q : Nat, (q ≠ m ∧ q ≠ m + 11 ∧ q ≠ m + 15) → h2 q = h q := fun q hq => (congrFun eh2 q).trans ((hup_n (by omega)).trans (fr0 q hq))
  refine g_aload_n k rfl dX10_tight_5 ?_
  refine g_iload_n k rfl dX10_tight_6 ?_
  refine g_cVi k 10 (As := [vi p]) v_X10_isLength rfl rfl hm_ ml_X10_259 (c_X10_isLength hm_ hn_ hR hS hu_ hL rp) (by omega) (by omega) rfl (Nat.le_of_ble_eq_true rfl) rfl dX10_tight_7 (fun r7 h7 p7 => ?_)
  obtain ⟨q7, ⟨S7, nu7⟩, nfr7⟩ := p7
  have hm__1 : h7 m = some (mo m (fu s 0 0)) := (nfr7 _ (by omega)).trans hm_
  have hn__1 : h7 (m + 2) = some (ai G 86 N) := (nfr7 _ (by omega)).trans hn_
  have hu__1 : h7 (m + 11) = some (ai G 64 S7) := nu7
  have hg__1 : h7 (m + 15) = some (ai G 8 Bg) := (nfr7 _ (by omega)).trans hg_
  have fr__1 : ∀ q : Nat, (q ≠ m ∧ q ≠ m + 11 ∧ q ≠ m + 15) → h7 q = h q := fun q hq => (nfr7 q (by omega)).trans (fr_ q hq)
  have q7r := q7.r
  refine g_if_ne k (tgt := 15) (by omega) dX10_tight_10 (by decide) (fun c10 => ?_) (fun c10 => ?_)
  · skip
    have hly := q7.t (by omega)
    have hly2 := hly.1
    have hly3 := hly.2.1
    refine g_aload_n k rfl dX10_tight_15 ?_
    refine g_iload_n k rfl dX10_tight_16 ?_
    refine g_cVv k 10 (As := [vi p]) v_X10_laysBegins rfl rfl hm__1 ml_X10_262 (c_X10_laysBegins hm__1 hn__1 hR hS hu__1 hg__1 (L := p) ⟨hly.1, hly.2.1⟩ hly.2.2) (by omega) (by omega) rfl (Nat.le_of_ble_eq_true rfl) rfl dX10_tight_17 (fun h17 p17 => ?_)
    obtain ⟨⟨S9, B9, nu9, ng9, hval, hBg⟩, nfr9⟩ := p17
    have hm__2 : h17 m = some (mo m (fu s 0 0)) := (nfr9 _ (by omega)).trans hm__1
    have hn__2 : h17 (m + 2) = some (ai G 86 N) := (nfr9 _ (by omega)).trans hn__1
    have hu__2 : h17 (m + 11) = some (ai G 64 S9) := nu9
    have hg__2 : h17 (m + 15) = some (ai G 8 B9) := ng9
    have fr__2 : ∀ q : Nat, (q ≠ m ∧ q ≠ m + 11 ∧ q ≠ m + 15) → h17 q = h q := fun q hq => (nfr9 q (by omega)).trans (fr__1 q hq)
    have hbd := str_bd (φ := φ) h8 ⟨hly.1, hly.2.1⟩
    refine g_iconst k dX10_tight_20 ?_
    refine g_istore_n k (lv2 := [(0, .ref m), (1, vi p), (2, vi 0)]) (by decide) rfl rfl dX10_tight_21 ?_
    refine g_iconst k dX10_tight_22 ?_
    refine g_istore_n k (lv2 := [(0, .ref m), (1, vi p), (2, vi 0), (3, vi 0)]) (by decide) rfl rfl dX10_tight_23 ?_
    have K24 : ∀ (nz : Nat) (v : Nat) (hv : v ≤ φ.length) (hmz : φ.length - v < nz), Go G X 6 QQ 0 0 nx 24 [(0, .ref m), (1, vi p), (2, vi (bF (tgP φ (str φ p it) it p) v : Int)), (3, vi (v : Int))] [] h17 := by
      intro nz
      induction nz with
      | zero => intro v hv hmz; exact absurd hmz (Nat.not_lt_zero _)
      | succ nz ih24 =>
        intro v hv hmz
        refine g_iload_n k rfl dX10_tight_24 ?_
        refine g_aload_n k rfl dX10_tight_25 ?_
        refine g_cVi k 10 (As := []) v_X10_facts rfl rfl hm__2 ml_X10_237 (c_X10_facts hm__2 hn__2 hR hS) (by omega) (by omega) rfl (Nat.le_of_ble_eq_true rfl) rfl dX10_tight_26 (fun r26 h26 p26 => ?_)
        obtain ⟨eh26, p26⟩ := p26
        have eh26 := eh26.symm; subst eh26
        subst p26
        refine g_icmp_ge k (tgt := 128) (by omega) (by omega) dX10_tight_29 (by decide) (fun c29 => ?_) (fun c29 => ?_)
        · skip
          refine g_iload_n k rfl dX10_tight_128 ?_
          rw [← hQQ]
          refine g_ireti k rfl dX10_tight_129 ?_
          have e : v = φ.length := by omega
          subst e
          exact ⟨⟨fun _ => rfl, fun q => absurd hly q⟩, ⟨_, ⟨hm__2, ((fr__2 (m + 1) (by omega)).trans cq1), ⟨N, hn__2, hR⟩, (by rw [fr__2 (m + 3) (by omega)]; exact cq3), (by rw [fr__2 (m + 4) (by omega)]; exact cq4), (by rw [fr__2 (m + 5) (by omega)]; exact cq5), (by rw [fr__2 (m + 6) (by omega)]; exact cq6), (by rw [fr__2 (m + 7) (by omega)]; exact cq7), (by rw [fr__2 (m + 8) (by omega)]; exact cq8), (by rw [fr__2 (m + 9) (by omega)]; exact cq9), (by rw [fr__2 (m + 10) (by omega)]; exact cq10), ⟨_, hu__2⟩, (by rw [fr__2 (m + 12) (by omega)]; exact cq12), (by rw [fr__2 (m + 13) (by omega)]; exact cq13), (by rw [fr__2 (m + 14) (by omega)]; exact cq14), ⟨_, hg__2⟩, (by rw [fr__2 (m + 16) (by omega)]; exact cq16), (by rw [fr__2 (m + 17) (by omega)]; exact cq17)⟩, hsc, rfl⟩, (fun q hq => fr__2 q (by omega))⟩
        · skip
          have hb := hsm v (by omega)
          have he1 := ely_bd (i := se φ v) hbd (by omega) (by omega) it h8
          have he2 := ely_bd (i := fi φ v) hbd (by omega) (by omega) it h8
          have hdd : tgD φ (str φ p it) it v = ely (str φ p it) (se φ v) it - ely (str φ p it) (fi φ v) it := rfl
          have hp := pow31 (n := v) (by omega)
          have hq := bF_lt (tgP φ (str φ p it) it p) v
          refine g_aload_n k rfl dX10_tight_32 ?_
          refine g_get k 10 32 (v := .ref (m + 15)) (C := RX10) (T := TX10) (N := 38) fl_X10_118 rfl wi_X10 (by decide) rfl hm__2 rfl dX10_tight_33 ?_
          refine g_aload_n k rfl dX10_tight_36 ?_
          refine g_get k 10 10 (v := .ref (m + 2)) (C := RX10) (T := TX10) (N := 38) fl_X10_74 rfl wi_X10 (by decide) rfl hm__2 rfl dX10_tight_37 ?_
          refine g_bipush k rfl dX10_tight_40 ?_
          refine g_iload_n k rfl dX10_tight_42 ?_
          refine g_iadd k dX10_tight_43 ?_
          refine g_iald k (58 + v) hn__2 (by omega) (by omega) (by decide) dX10_tight_44 ?_
          rw [show N (58 + v) = (se (φ) v : Int) from hR.s (by omega)]
          refine g_iald k (se φ v) hg__2 (by omega) (by omega) (by decide) dX10_tight_45 ?_
          rw [show B9 (se φ v) = ely (str φ p it) (se φ v) it from hBg _ (by omega)]
          refine g_aload_n k rfl dX10_tight_46 ?_
          refine g_get k 10 32 (v := .ref (m + 15)) (C := RX10) (T := TX10) (N := 38) fl_X10_118 rfl wi_X10 (by decide) rfl hm__2 rfl dX10_tight_47 ?_
          refine g_aload_n k rfl dX10_tight_50 ?_
          refine g_get k 10 10 (v := .ref (m + 2)) (C := RX10) (T := TX10) (N := 38) fl_X10_74 rfl wi_X10 (by decide) rfl hm__2 rfl dX10_tight_51 ?_
          refine g_bipush k rfl dX10_tight_54 ?_
          refine g_iload_n k rfl dX10_tight_56 ?_
          refine g_iadd k dX10_tight_57 ?_
          refine g_iald k (30 + v) hn__2 (by omega) (by omega) (by decide) dX10_tight_58 ?_
          rw [show N (30 + v) = (fi (φ) v : Int) from hR.f (by omega)]
          refine g_iald k (fi φ v) hg__2 (by omega) (by omega) (by decide) dX10_tight_59 ?_
          rw [show B9 (fi φ v) = ely (str φ p it) (fi φ v) it from hBg _ (by omega)]
          refine g_isub k dX10_tight_60 ?_
          rw [show (ely (str φ p it) (se φ v) it) - (ely (str φ p it) (fi φ v) it) = tgD φ (str φ p it) it v from rfl]
          refine g_istore k (lv2 := [(0, .ref m), (1, vi p), (2, vi (bF (tgP φ (str φ p it) it p) v : Int)), (3, vi (v : Int)), (4, vi (tgD φ (str φ p it) it v))]) (by decide) rfl rfl dX10_tight_61 ?_
          have K109 : ∀ (zs : Int) (hsp : bz (tgP φ (str φ p it) it p v) zs), Go G X 6 QQ 0 0 nx 109 [(0, .ref m), (1, vi p), (2, vi (bF (tgP φ (str φ p it) it p) v : Int)), (3, vi (v : Int)), (4, vi (tgD φ (str φ p it) it v))] [vi zs] h17 := by
            intro zs hsp
            have hspr := hsp.r
            refine g_istore k (lv2 := [(0, .ref m), (1, vi p), (2, vi (bF (tgP φ (str φ p it) it p) v : Int)), (3, vi (v : Int)), (4, vi (tgD φ (str φ p it) it v)), (5, vi zs)]) (by decide) rfl rfl dX10_tight_109 ?_
            refine g_iload k rfl dX10_tight_111 ?_
            refine g_if_eq k (tgt := 122) (by omega) dX10_tight_113 (by decide) (fun c113 => ?_) (fun c113 => ?_)
            · skip
              refine g_iinc k (lv2 := [(0, .ref m), (1, vi p), (2, vi (bF (tgP φ (str φ p it) it p) v : Int)), (3, vi ((v : Int) + 1)), (4, vi (tgD φ (str φ p it) it v)), (5, vi zs)]) rfl (by decide) rfl rfl dX10_tight_122 ?_
              refine g_goto k (tgt := 24) dX10_tight_125 (by decide) ?_
              refine g_less (lv2 := [(0, .ref m), (1, vi p), (2, vi (bF (tgP φ (str φ p it) it p) v : Int)), (3, vi ((v : Int) + 1))]) ⟨rfl, rfl, rfl, rfl, trivial⟩ ?_
              rw [show bF (tgP φ (str φ p it) it p) v = bF (tgP φ (str φ p it) it p) (v + 1) from (bF_n (hsp.f (by omega))).symm]
              exact ih24 (v + 1) (by omega) (by omega)
            · skip
              refine g_iload_n k rfl dX10_tight_116 ?_
              refine g_iconst k dX10_tight_117 ?_
              refine g_iload_n k rfl dX10_tight_118 ?_
              refine g_ishl k (by omega) dX10_tight_119 ?_
              rw [show 1 * 2 ^ ((v : Int)).toNat = ((2 ^ v : Nat) : Int) from (by rw [Int.toNat_natCast]; simp)]
              refine g_ior k (a := bF (tgP φ (str φ p it) it p) v) (b := 2 ^ v) (by omega) (by omega) dX10_tight_120 ?_
              refine g_istore_n k (lv2 := [(0, .ref m), (1, vi p), (2, vi ((bF (tgP φ (str φ p it) it p) v ||| 2 ^ v : Nat) : Int)), (3, vi (v : Int)), (4, vi (tgD φ (str φ p it) it v)), (5, vi zs)]) (by decide) rfl rfl dX10_tight_121 ?_
              refine g_iinc k (lv2 := [(0, .ref m), (1, vi p), (2, vi ((bF (tgP φ (str φ p it) it p) v ||| 2 ^ v : Nat) : Int)), (3, vi ((v : Int) + 1)), (4, vi (tgD φ (str φ p it) it v)), (5, vi zs)]) rfl (by decide) rfl rfl dX10_tight_122 ?_
              refine g_goto k (tgt := 24) dX10_tight_125 (by decide) ?_
              refine g_less (lv2 := [(0, .ref m), (1, vi p), (2, vi ((bF (tgP φ (str φ p it) it p) v ||| 2 ^ v : Nat) : Int)), (3, vi ((v : Int) + 1))]) ⟨rfl, rfl, rfl, rfl, trivial⟩ ?_
              rw [show bF (tgP φ (str φ p it) it p) v ||| 2 ^ v = bF (tgP φ (str φ p it) it p) (v + 1) from (bF_y (hsp.t (by omega))).symm]
              exact ih24 (v + 1) (by omega) (by omega)
          refine g_aload_n k rfl dX10_tight_63 ?_
          refine g_get k 10 10 (v := .ref (m + 2)) (C := RX10) (T := TX10) (N := 38) fl_X10_74 rfl wi_X10 (by decide) rfl hm__2 rfl dX10_tight_64 ?_
          refine g_iconst k dX10_tight_67 ?_
          refine g_iload_n k rfl dX10_tight_68 ?_
          refine g_iadd k dX10_tight_69 ?_
          refine g_iald k (2 + v) hn__2 (by omega) (by omega) (by decide) dX10_tight_70 ?_
          rw [show N (2 + v) = (kd (φ) v : Int) from hR.k (by omega)]
          refine g_if_ne k (tgt := 88) (by omega) dX10_tight_71 (by decide) (fun c71 => ?_) (fun c71 => ?_)
          · skip
            refine g_iload k rfl dX10_tight_88 ?_
            refine g_iload_n k rfl dX10_tight_90 ?_
            refine g_iconst k dX10_tight_91 ?_
            refine g_isub k dX10_tight_92 ?_
            refine g_icmp_eq k (tgt := 104) (by omega) (by omega) dX10_tight_93 (by decide) (fun c93 => ?_) (fun c93 => ?_)
            · skip
              refine g_iconst k dX10_tight_104 ?_
              refine g_goto k (tgt := 109) dX10_tight_105 (by decide) ?_
              exact K109 _ (by first | exact bz.y (by unfold tgP; omega) | exact bz.n (by unfold tgP; omega))
            · skip
              refine g_iload k rfl dX10_tight_96 ?_
              refine g_iconst k dX10_tight_98 ?_
              refine g_iload_n k rfl dX10_tight_99 ?_
              refine g_isub k dX10_tight_100 ?_
              refine g_icmp_ne k (tgt := 108) (by omega) (by omega) dX10_tight_101 (by decide) (fun c101 => ?_) (fun c101 => ?_)
              · skip
                refine g_iconst k dX10_tight_108 ?_
                exact K109 _ (by first | exact bz.y (by unfold tgP; omega) | exact bz.n (by unfold tgP; omega))
              · skip
                refine g_iconst k dX10_tight_104 ?_
                refine g_goto k (tgt := 109) dX10_tight_105 (by decide) ?_
                exact K109 _ (by first | exact bz.y (by unfold tgP; omega) | exact bz.n (by unfold tgP; omega))
          · skip
            refine g_iload k rfl dX10_tight_74 ?_
            refine g_iload_n k rfl dX10_tight_76 ?_
            refine g_icmp_ne k (tgt := 84) (by omega) (by omega) dX10_tight_77 (by decide) (fun c77 => ?_) (fun c77 => ?_)
            · skip
              refine g_iconst k dX10_tight_84 ?_
              refine g_goto k (tgt := 109) dX10_tight_85 (by decide) ?_
              exact K109 _ (by first | exact bz.y (by unfold tgP; omega) | exact bz.n (by unfold tgP; omega))
            · skip
              refine g_iconst k dX10_tight_80 ?_
              refine g_goto k (tgt := 109) dX10_tight_81 (by decide) ?_
              exact K109 _ (by first | exact bz.y (by unfold tgP; omega) | exact bz.n (by unfold tgP; omega))
    exact K24 _ 0 (Nat.zero_le _) (Nat.lt_succ_self _)
  · skip
    refine g_iconst k dX10_tight_13 ?_
    rw [← hQQ]
    refine g_ireti k rfl dX10_tight_14 ?_
    exact ⟨⟨fun q => absurd q (q7.f (by omega)), fun _ => rfl⟩, ⟨_, ⟨hm__1, ((fr__1 (m + 1) (by omega)).trans cq1), ⟨N, hn__1, hR⟩, (by rw [fr__1 (m + 3) (by omega)]; exact cq3), (by rw [fr__1 (m + 4) (by omega)]; exact cq4), (by rw [fr__1 (m + 5) (by omega)]; exact cq5), (by rw [fr__1 (m + 6) (by omega)]; exact cq6), (by rw [fr__1 (m + 7) (by omega)]; exact cq7), (by rw [fr__1 (m + 8) (by omega)]; exact cq8), (by rw [fr__1 (m + 9) (by omega)]; exact cq9), (by rw [fr__1 (m + 10) (by omega)]; exact cq10), ⟨_, hu__1⟩, (by rw [fr__1 (m + 12) (by omega)]; exact cq12), (by rw [fr__1 (m + 13) (by omega)]; exact cq13), (by rw [fr__1 (m + 14) (by omega)]; exact cq14), ⟨_, hg__1⟩, (by rw [fr__1 (m + 16) (by omega)]; exact cq16), (by rw [fr__1 (m + 17) (by omega)]; exact cq17)⟩, hsc, rfl⟩, (fun q hq => fr__1 q (by omega))⟩

set_option maxHeartbeats 600000 in
set_option maxRecDepth 100000 in
theorem c_X10_late {G : Gx} {h : Hp} {nx m : Nat} {it : Nat} {φ : Fs} {ps : List (Nat × Fs)} {im : Nat → Option (Nat × Fs)} {V : RV} {n : Nat} {T : Nat → Int} {ft : Nat} (hM : MS G h m it φ ps im V n T ft) (hS : Sm it φ) {L : Nat} (hL : isL φ it L) {p p2 p3 : Int} (rp : -2147483648 ≤ p ∧ p ≤ 2147483647) (rp2 : -2147483648 ≤ p2 ∧ p2 ≤ 2147483647) (rp3 : -2147483648 ≤ p3 ∧ p3 ≤ 2147483647) : Con G yX10_late cX10_late 6 (some .int) 6 0 0 [.ref m, vi p, vi p2, vi p3] h nx (PI fun z h' => (((hasI it p ∧ (0 ≤ p3 ∧ p3 ≤ 999) ∧ lyO φ it p2 ∧ ∀ v, v < it → ely (str φ p2 it) v it ≤ p3) → z = p3 - lbF (str φ p2 it) p.toNat it) ∧ (¬ (hasI it p ∧ (0 ≤ p3 ∧ p3 ≤ 999) ∧ lyO φ it p2 ∧ ∀ v, v < it → ely (str φ p2 it) v it ≤ p3) → z = -1)) ∧ MT G h' m 0 it φ ps im V n T ft ∧ ∀ q : Nat, (q < m ∨ m + 17 < q) → h' q = h q) := by
  obtain ⟨th, s, ⟨hm, cq1, cq2, cq3, cq4, cq5, cq6, cq7, cq8, cq9, cq10, cq11, cq12, cq13, cq14, cq15, cq16, cq17⟩, hsc, hth⟩ := hM
  obtain ⟨z1, z6, z9, z14, z17, z15, z16⟩ := id hsc
  obtain ⟨N, hn, hR⟩ := id cq2
  obtain ⟨S, hu⟩ := id cq11
  obtain ⟨Bg, hg⟩ := id cq15
  obtain ⟨h8, h28, hsm⟩ := id hS
  refine Con.of v_X10_late.2.2.2.2.2.1 (Nat.le_of_ble_eq_true rfl) (lv := [(0, .ref m), (1, vi p), (2, vi p2), (3, vi p3)]) rfl (fun X k => ?_)
  generalize hQQ : QM G X nx 0 0 _ = QQ
  have fr0 : ∀ q : Nat, (q ≠ m ∧ q ≠ m + 11 ∧ q ≠ m + 15) → h q = h q := fun _ _ => rfl
  refine g_aload_n k rfl dX10_late_0 ?_
  refine g_iconst k dX10_late_1 ?_
  refine g_put k 10 0 (C := RX10) (T := TX10) (N := 38) fl_X10_1 rfl wi_X10 tyX10 tyX10_ok nmX10 (by decide) rfl rfl rfl rfl hm (Nat.le_of_ble_eq_true rfl) (fs2 := mol m (fu s 0 0)) rfl rfl dX10_late_2 (fun h2 eh2 => ?_)
  have hm_ : h2 m = some (mo m (fu s 0 0)) := (congrFun eh2 _).trans hup_s
  have hn_ : h2 (m + 2) = some (ai G 86 N) := (congrFun eh2 _).trans ((hup_n (by omega)).trans hn)
  have hu_ : h2 (m + 11) = some (ai G 64 S) := (congrFun eh2 _).trans ((hup_n (by omega)).trans hu)
  have hg_ : h2 (m + 15) = some (ai G 8 Bg) := (congrFun eh2 _).trans ((hup_n (by omega)).trans hg)
  have fr_ : ∀ q : Nat, (q ≠ m ∧ q ≠ m + 11 ∧ q ≠ m + 15) → h2 q = h q := fun q hq => (congrFun eh2 q).trans ((hup_n (by omega)).trans (fr0 q hq))
  refine g_aload_n k rfl dX10_late_5 ?_
  refine g_iload_n k rfl dX10_late_6 ?_
  refine g_cVi k 10 (As := [vi p]) v_X10_isItem rfl rfl hm_ ml_X10_231 (c_X10_isItem hm_ hn_ hR hS rp) (by omega) (by omega) rfl (Nat.le_of_ble_eq_true rfl) rfl dX10_late_7 (fun r7 h7 p7 => ?_)
  obtain ⟨eh7, p7⟩ := p7
  have eh7 := eh7.symm; subst eh7
  have q7 := p7
  have q7r := q7.r
  refine g_if_eq k (tgt := 32) (by omega) dX10_late_10 (by decide) (fun c10 => ?_) (fun c10 => ?_)
  · skip
    refine g_iconst k dX10_late_32 ?_
    rw [← hQQ]
    refine g_ireti k rfl dX10_late_33 ?_
    exact ⟨⟨fun q => absurd q.1 (q7.f (by omega)), fun _ => rfl⟩, ⟨_, ⟨hm_, ((fr_ (m + 1) (by omega)).trans cq1), ⟨N, hn_, hR⟩, (by rw [fr_ (m + 3) (by omega)]; exact cq3), (by rw [fr_ (m + 4) (by omega)]; exact cq4), (by rw [fr_ (m + 5) (by omega)]; exact cq5), (by rw [fr_ (m + 6) (by omega)]; exact cq6), (by rw [fr_ (m + 7) (by omega)]; exact cq7), (by rw [fr_ (m + 8) (by omega)]; exact cq8), (by rw [fr_ (m + 9) (by omega)]; exact cq9), (by rw [fr_ (m + 10) (by omega)]; exact cq10), ⟨_, hu_⟩, (by rw [fr_ (m + 12) (by omega)]; exact cq12), (by rw [fr_ (m + 13) (by omega)]; exact cq13), (by rw [fr_ (m + 14) (by omega)]; exact cq14), ⟨_, hg_⟩, (by rw [fr_ (m + 16) (by omega)]; exact cq16), (by rw [fr_ (m + 17) (by omega)]; exact cq17)⟩, hsc, rfl⟩, (fun q hq => fr_ q (by omega))⟩
  · skip
    refine g_aload_n k rfl dX10_late_13 ?_
    refine g_iload_n k rfl dX10_late_14 ?_
    refine g_cVi k 10 (As := [vi p2]) v_X10_isLength rfl rfl hm_ ml_X10_259 (c_X10_isLength hm_ hn_ hR hS hu_ hL rp2) (by omega) (by omega) rfl (Nat.le_of_ble_eq_true rfl) rfl dX10_late_15 (fun r15 h15 p15 => ?_)
    obtain ⟨q15, ⟨S15, nu15⟩, nfr15⟩ := p15
    have hm__1 : h15 m = some (mo m (fu s 0 0)) := (nfr15 _ (by omega)).trans hm_
    have hn__1 : h15 (m + 2) = some (ai G 86 N) := (nfr15 _ (by omega)).trans hn_
    have hu__1 : h15 (m + 11) = some (ai G 64 S15) := nu15
    have hg__1 : h15 (m + 15) = some (ai G 8 Bg) := (nfr15 _ (by omega)).trans hg_
    have fr__1 : ∀ q : Nat, (q ≠ m ∧ q ≠ m + 11 ∧ q ≠ m + 15) → h15 q = h q := fun q hq => (nfr15 q (by omega)).trans (fr_ q hq)
    have q15r := q15.r
    refine g_if_eq k (tgt := 32) (by omega) dX10_late_18 (by decide) (fun c18 => ?_) (fun c18 => ?_)
    · skip
      refine g_iconst k dX10_late_32 ?_
      rw [← hQQ]
      refine g_ireti k rfl dX10_late_33 ?_
      exact ⟨⟨fun q => absurd q.2.2.1 (q15.f (by omega)), fun _ => rfl⟩, ⟨_, ⟨hm__1, ((fr__1 (m + 1) (by omega)).trans cq1), ⟨N, hn__1, hR⟩, (by rw [fr__1 (m + 3) (by omega)]; exact cq3), (by rw [fr__1 (m + 4) (by omega)]; exact cq4), (by rw [fr__1 (m + 5) (by omega)]; exact cq5), (by rw [fr__1 (m + 6) (by omega)]; exact cq6), (by rw [fr__1 (m + 7) (by omega)]; exact cq7), (by rw [fr__1 (m + 8) (by omega)]; exact cq8), (by rw [fr__1 (m + 9) (by omega)]; exact cq9), (by rw [fr__1 (m + 10) (by omega)]; exact cq10), ⟨_, hu__1⟩, (by rw [fr__1 (m + 12) (by omega)]; exact cq12), (by rw [fr__1 (m + 13) (by omega)]; exact cq13), (by rw [fr__1 (m + 14) (by omega)]; exact cq14), ⟨_, hg__1⟩, (by rw [fr__1 (m + 16) (by omega)]; exact cq16), (by rw [fr__1 (m + 17) (by omega)]; exact cq17)⟩, hsc, rfl⟩, (fun q hq => fr__1 q (by omega))⟩
    · skip
      refine g_iload_n k rfl dX10_late_21 ?_
      refine g_iconst k dX10_late_22 ?_
      refine g_sipush k rfl dX10_late_23 ?_
      refine g_cSi k (As := [vi p3, vi 0, vi 999]) v_X10_isIn ml_X10_224 (c_X10_isIn rp3 (by omega) (by omega)) (by omega) (by omega) rfl (Nat.le_of_ble_eq_true rfl) rfl dX10_late_26 (fun r26 h26 p26 => ?_)
      obtain ⟨eh26, p26⟩ := p26
      have eh26 := eh26.symm; subst eh26
      have q26 := p26
      have q26r := q26.r
      refine g_if_ne k (tgt := 34) (by omega) dX10_late_29 (by decide) (fun c29 => ?_) (fun c29 => ?_)
      · skip
        have hly := q15.t (by omega)
        have hi := q7.t (by omega)
        have hw := q26.t (by omega)
        have hi2 : 0 ≤ p ∧ p < it := hi
        refine g_aload_n k rfl dX10_late_34 ?_
        refine g_iload_n k rfl dX10_late_35 ?_
        refine g_cVv k 10 (As := [vi p2]) v_X10_laysBegins rfl rfl hm__1 ml_X10_262 (c_X10_laysBegins hm__1 hn__1 hR hS hu__1 hg__1 (L := p2) ⟨hly.1, hly.2.1⟩ hly.2.2) (by omega) (by omega) rfl (Nat.le_of_ble_eq_true rfl) rfl dX10_late_36 (fun h36 p36 => ?_)
        obtain ⟨⟨S9, B9, nu9, ng9, hval, hBg⟩, nfr9⟩ := p36
        have hm__2 : h36 m = some (mo m (fu s 0 0)) := (nfr9 _ (by omega)).trans hm__1
        have hn__2 : h36 (m + 2) = some (ai G 86 N) := (nfr9 _ (by omega)).trans hn__1
        have hu__2 : h36 (m + 11) = some (ai G 64 S9) := nu9
        have hg__2 : h36 (m + 15) = some (ai G 8 B9) := ng9
        have fr__2 : ∀ q : Nat, (q ≠ m ∧ q ≠ m + 11 ∧ q ≠ m + 15) → h36 q = h q := fun q hq => (nfr9 q (by omega)).trans (fr__1 q hq)
        have hbd := str_bd (φ := φ) h8 ⟨hly.1, hly.2.1⟩
        refine g_iload_n k rfl dX10_late_39 ?_
        refine g_istore k (lv2 := [(0, .ref m), (1, vi p), (2, vi p2), (3, vi p3), (4, vi p3)]) (by decide) rfl rfl dX10_late_40 ?_
        refine g_iconst k dX10_late_42 ?_
        refine g_istore k (lv2 := [(0, .ref m), (1, vi p), (2, vi p2), (3, vi p3), (4, vi p3), (5, vi 0)]) (by decide) rfl rfl dX10_late_43 ?_
        have K45 : ∀ (nz : Nat) (v : Nat) (hv : v ≤ it) (hno : ∀ j, j < v → ely (str φ p2 it) j it ≤ p3) (hmz : it - v < nz), Go G X 6 QQ 0 0 nx 45 [(0, .ref m), (1, vi p), (2, vi p2), (3, vi p3), (4, vi (p3 - lbF (str φ p2 it) p.toNat v)), (5, vi (v : Int))] [] h36 := by
          intro nz
          induction nz with
          | zero => intro v hv hno hmz; exact absurd hmz (Nat.not_lt_zero _)
          | succ nz ih45 =>
            intro v hv hno hmz
            refine g_iload k rfl dX10_late_45 ?_
            refine g_aload_n k rfl dX10_late_47 ?_
            refine g_cVi k 10 (As := []) v_X10_items rfl rfl hm__2 ml_X10_228 (c_X10_items hm__2 hn__2 hR hS) (by omega) (by omega) rfl (Nat.le_of_ble_eq_true rfl) rfl dX10_late_48 (fun r48 h48 p48 => ?_)
            obtain ⟨eh48, p48⟩ := p48
            have eh48 := eh48.symm; subst eh48
            subst p48
            refine g_icmp_ge k (tgt := 125) (by omega) (by omega) dX10_late_51 (by decide) (fun c51 => ?_) (fun c51 => ?_)
            · skip
              refine g_iload k rfl dX10_late_125 ?_
              rw [← hQQ]
              refine g_ireti k rfl dX10_late_127 ?_
              have e : v = it := by omega
              exact ⟨⟨fun _ => by rw [e], fun q => absurd ⟨hi, hw, hly, fun j hj => hno j (by omega)⟩ q⟩, ⟨_, ⟨hm__2, ((fr__2 (m + 1) (by omega)).trans cq1), ⟨N, hn__2, hR⟩, (by rw [fr__2 (m + 3) (by omega)]; exact cq3), (by rw [fr__2 (m + 4) (by omega)]; exact cq4), (by rw [fr__2 (m + 5) (by omega)]; exact cq5), (by rw [fr__2 (m + 6) (by omega)]; exact cq6), (by rw [fr__2 (m + 7) (by omega)]; exact cq7), (by rw [fr__2 (m + 8) (by omega)]; exact cq8), (by rw [fr__2 (m + 9) (by omega)]; exact cq9), (by rw [fr__2 (m + 10) (by omega)]; exact cq10), ⟨_, hu__2⟩, (by rw [fr__2 (m + 12) (by omega)]; exact cq12), (by rw [fr__2 (m + 13) (by omega)]; exact cq13), (by rw [fr__2 (m + 14) (by omega)]; exact cq14), ⟨_, hg__2⟩, (by rw [fr__2 (m + 16) (by omega)]; exact cq16), (by rw [fr__2 (m + 17) (by omega)]; exact cq17)⟩, hsc, rfl⟩, (fun q hq => fr__2 q (by omega))⟩
            · skip
              have hba := hbd (p.toNat * 8 + v) (by omega)
              have hbb := ely_bd (i := v) hbd (by omega) (by omega) it h8
              have hbl := lbF_bd (i := p.toNat) hbd (by omega) (by omega) v (by omega)
              have hca : ((str φ p2 it) (p.toNat * 8 + v) = -1000000000 ∧ cs ((str φ p2 it) (p.toNat * 8 + v)) = -100000) ∨ ((str φ p2 it) (p.toNat * 8 + v) ≠ -1000000000 ∧ cs ((str φ p2 it) (p.toNat * 8 + v)) = (str φ p2 it) (p.toNat * 8 + v)) := by unfold cs; split <;> omega
              refine g_aload_n k rfl dX10_late_54 ?_
              refine g_get k 10 32 (v := .ref (m + 15)) (C := RX10) (T := TX10) (N := 38) fl_X10_118 rfl wi_X10 (by decide) rfl hm__2 rfl dX10_late_55 ?_
              refine g_iload k rfl dX10_late_58 ?_
              refine g_iald k v hg__2 (by omega) (by omega) (by decide) dX10_late_60 ?_
              rw [show B9 v = ely (str φ p2 it) v it from hBg _ (by omega)]
              refine g_iload_n k rfl dX10_late_61 ?_
              refine g_icmp_le k (tgt := 67) (by omega) (by omega) dX10_late_62 (by decide) (fun c62 => ?_) (fun c62 => ?_)
              · skip
                refine g_aload_n k rfl dX10_late_67 ?_
                refine g_get k 10 20 (v := .ref (m + 11)) (C := RX10) (T := TX10) (N := 38) fl_X10_103 rfl wi_X10 (by decide) rfl hm__2 rfl dX10_late_68 ?_
                refine g_bipush k rfl dX10_late_71 ?_
                refine g_iload_n k rfl dX10_late_73 ?_
                refine g_imul k dX10_late_74 ?_
                refine g_iload k rfl dX10_late_75 ?_
                refine g_iadd k dX10_late_77 ?_
                refine g_iald k (p.toNat * 8 + v) hu__2 (by omega) (by omega) (by decide) dX10_late_78 ?_
                rw [show S9 (p.toNat * 8 + v) = cs ((str φ p2 it) (p.toNat * 8 + v)) from hval _ _ (by omega) (by omega)]
                refine g_ldc k (z := (-100000)) cn_X10_170 rfl dX10_late_79 ?_
                refine g_icmp_le k (tgt := 119) (by omega) (by omega) dX10_late_81 (by decide) (fun c81 => ?_) (fun c81 => ?_)
                · skip
                  refine g_iinc k (lv2 := [(0, .ref m), (1, vi p), (2, vi p2), (3, vi p3), (4, vi (p3 - lbF (str φ p2 it) p.toNat v)), (5, vi ((v : Int) + 1))]) rfl (by decide) rfl rfl dX10_late_119 ?_
                  refine g_goto k (tgt := 45) dX10_late_122 (by decide) ?_
                  rw [show lbF (str φ p2 it) p.toNat v = lbF (str φ p2 it) p.toNat (v + 1) by rw [lbF, if_neg (by omega)]]
                  exact ih45 (v + 1) (by omega) (lt_s2 hno (by omega)) (by omega)
                · skip
                  refine g_iload_n k rfl dX10_late_84 ?_
                  refine g_aload_n k rfl dX10_late_85 ?_
                  refine g_get k 10 20 (v := .ref (m + 11)) (C := RX10) (T := TX10) (N := 38) fl_X10_103 rfl wi_X10 (by decide) rfl hm__2 rfl dX10_late_86 ?_
                  refine g_bipush k rfl dX10_late_89 ?_
                  refine g_iload_n k rfl dX10_late_91 ?_
                  refine g_imul k dX10_late_92 ?_
                  refine g_iload k rfl dX10_late_93 ?_
                  refine g_iadd k dX10_late_95 ?_
                  refine g_iald k (p.toNat * 8 + v) hu__2 (by omega) (by omega) (by decide) dX10_late_96 ?_
                  rw [show S9 (p.toNat * 8 + v) = cs ((str φ p2 it) (p.toNat * 8 + v)) from hval _ _ (by omega) (by omega)]
                  refine g_isub k dX10_late_97 ?_
                  refine g_iload k rfl dX10_late_98 ?_
                  refine g_icmp_ge k (tgt := 119) (by omega) (by omega) dX10_late_100 (by decide) (fun c100 => ?_) (fun c100 => ?_)
                  · skip
                    refine g_iinc k (lv2 := [(0, .ref m), (1, vi p), (2, vi p2), (3, vi p3), (4, vi (p3 - lbF (str φ p2 it) p.toNat v)), (5, vi ((v : Int) + 1))]) rfl (by decide) rfl rfl dX10_late_119 ?_
                    refine g_goto k (tgt := 45) dX10_late_122 (by decide) ?_
                    rw [show lbF (str φ p2 it) p.toNat v = lbF (str φ p2 it) p.toNat (v + 1) by rw [lbF, if_neg (by omega)]]
                    exact ih45 (v + 1) (by omega) (lt_s2 hno (by omega)) (by omega)
                  · skip
                    refine g_iload_n k rfl dX10_late_103 ?_
                    refine g_aload_n k rfl dX10_late_104 ?_
                    refine g_get k 10 20 (v := .ref (m + 11)) (C := RX10) (T := TX10) (N := 38) fl_X10_103 rfl wi_X10 (by decide) rfl hm__2 rfl dX10_late_105 ?_
                    refine g_bipush k rfl dX10_late_108 ?_
                    refine g_iload_n k rfl dX10_late_110 ?_
                    refine g_imul k dX10_late_111 ?_
                    refine g_iload k rfl dX10_late_112 ?_
                    refine g_iadd k dX10_late_114 ?_
                    refine g_iald k (p.toNat * 8 + v) hu__2 (by omega) (by omega) (by decide) dX10_late_115 ?_
                    rw [show S9 (p.toNat * 8 + v) = cs ((str φ p2 it) (p.toNat * 8 + v)) from hval _ _ (by omega) (by omega)]
                    refine g_isub k dX10_late_116 ?_
                    refine g_istore k (lv2 := [(0, .ref m), (1, vi p), (2, vi p2), (3, vi p3), (4, vi (p3 - (cs ((str φ p2 it) (p.toNat * 8 + v))))), (5, vi (v : Int))]) (by decide) rfl rfl dX10_late_117 ?_
                    refine g_iinc k (lv2 := [(0, .ref m), (1, vi p), (2, vi p2), (3, vi p3), (4, vi (p3 - (cs ((str φ p2 it) (p.toNat * 8 + v))))), (5, vi ((v : Int) + 1))]) rfl (by decide) rfl rfl dX10_late_119 ?_
                    refine g_goto k (tgt := 45) dX10_late_122 (by decide) ?_
                    rw [show cs ((str φ p2 it) (p.toNat * 8 + v)) = lbF (str φ p2 it) p.toNat (v + 1) by rw [lbF, if_pos (by omega)]; omega]
                    exact ih45 (v + 1) (by omega) (lt_s2 hno (by omega)) (by omega)
              · skip
                refine g_iconst k dX10_late_65 ?_
                rw [← hQQ]
                refine g_ireti k rfl dX10_late_66 ?_
                exact ⟨⟨fun q => by have := q.2.2.2 v (by omega); omega, fun _ => rfl⟩, ⟨_, ⟨hm__2, ((fr__2 (m + 1) (by omega)).trans cq1), ⟨N, hn__2, hR⟩, (by rw [fr__2 (m + 3) (by omega)]; exact cq3), (by rw [fr__2 (m + 4) (by omega)]; exact cq4), (by rw [fr__2 (m + 5) (by omega)]; exact cq5), (by rw [fr__2 (m + 6) (by omega)]; exact cq6), (by rw [fr__2 (m + 7) (by omega)]; exact cq7), (by rw [fr__2 (m + 8) (by omega)]; exact cq8), (by rw [fr__2 (m + 9) (by omega)]; exact cq9), (by rw [fr__2 (m + 10) (by omega)]; exact cq10), ⟨_, hu__2⟩, (by rw [fr__2 (m + 12) (by omega)]; exact cq12), (by rw [fr__2 (m + 13) (by omega)]; exact cq13), (by rw [fr__2 (m + 14) (by omega)]; exact cq14), ⟨_, hg__2⟩, (by rw [fr__2 (m + 16) (by omega)]; exact cq16), (by rw [fr__2 (m + 17) (by omega)]; exact cq17)⟩, hsc, rfl⟩, (fun q hq => fr__2 q (by omega))⟩
        refine g_less (lv2 := [(0, .ref m), (1, vi p), (2, vi p2), (3, vi p3), (4, vi (p3 - lbF (str φ p2 it) p.toNat 0)), (5, vi 0)]) ⟨rfl, rfl, rfl, rfl, (by rw [show p3 - lbF (str φ p2 it) p.toNat 0 = p3 by show p3 - 0 = p3; omega]; rfl), rfl, trivial⟩ ?_
        exact K45 _ 0 (Nat.zero_le _) (fun j hj => absurd hj (Nat.not_lt_zero j)) (Nat.lt_succ_self _)
      · skip
        refine g_iconst k dX10_late_32 ?_
        rw [← hQQ]
        refine g_ireti k rfl dX10_late_33 ?_
        exact ⟨⟨fun q => absurd q.2.1 (q26.f (by omega)), fun _ => rfl⟩, ⟨_, ⟨hm__1, ((fr__1 (m + 1) (by omega)).trans cq1), ⟨N, hn__1, hR⟩, (by rw [fr__1 (m + 3) (by omega)]; exact cq3), (by rw [fr__1 (m + 4) (by omega)]; exact cq4), (by rw [fr__1 (m + 5) (by omega)]; exact cq5), (by rw [fr__1 (m + 6) (by omega)]; exact cq6), (by rw [fr__1 (m + 7) (by omega)]; exact cq7), (by rw [fr__1 (m + 8) (by omega)]; exact cq8), (by rw [fr__1 (m + 9) (by omega)]; exact cq9), (by rw [fr__1 (m + 10) (by omega)]; exact cq10), ⟨_, hu__1⟩, (by rw [fr__1 (m + 12) (by omega)]; exact cq12), (by rw [fr__1 (m + 13) (by omega)]; exact cq13), (by rw [fr__1 (m + 14) (by omega)]; exact cq14), ⟨_, hg__1⟩, (by rw [fr__1 (m + 16) (by omega)]; exact cq16), (by rw [fr__1 (m + 17) (by omega)]; exact cq17)⟩, hsc, rfl⟩, (fun q hq => fr__1 q (by omega))⟩

set_option maxHeartbeats 600000 in
set_option maxRecDepth 100000 in
theorem c_X10_isGoodWith {G : Gx} {h : Hp} {nx : Nat} {m : Nat} {s : Nat → Int} (hm : h m = some (mo m s)) {r : Nat} {N : Nat → Int} {it : Nat} {φ : Fs} (hn : h r = some (ai G 86 N)) (hR : Rw N it φ) (hS : Sm it φ) (hrm : r ≠ m ∧ r ≠ m + 11) {S : Nat → Int} (hu : h (m + 11) = some (ai G 64 S)) {k1 x y : Nat} (hk : k1 ≤ 1) (hx : x < it) (hy : y < it) (hne : x ≠ y) (hix : ix φ (x : Int) (y : Int) = -1) : Con G yX10_isGoodWith cX10_isGoodWith 6 (some .boolean) 5 0 0 [.ref m, .ref r, vi (k1 : Int), vi (x : Int), vi (y : Int)] h nx (PI fun z h' => bz (Good (φ ++ [(k1, x, y)])) z ∧ aN G it φ (h' r) ∧ aI G 64 (h' (m + 11)) ∧ ∀ q : Nat, (q ≠ r ∧ q ≠ m + 11) → h' q = h q) := by
  have hS2 := hS.add hk hx hy hne hix
  have el : ((φ ++ [(k1, x, y)]).length : Int) = (φ.length : Int) + 1 := by simp
  refine Con.of v_X10_isGoodWith.2.2.2.2.2.1 (Nat.le_of_ble_eq_true rfl) (lv := [(0, .ref m), (1, .ref r), (2, vi (k1 : Int)), (3, vi (x : Int)), (4, vi (y : Int))]) rfl (fun X k => ?_)
  generalize hQQ : QM G X nx 0 0 _ = QQ
  have fr0 : ∀ q : Nat, (q ≠ r ∧ q ≠ m + 11) → h q = h q := fun _ _ => rfl
  refine g_aload_n k rfl dX10_isGoodWith_0 ?_
  refine g_iload_n k rfl dX10_isGoodWith_1 ?_
  refine g_iload_n k rfl dX10_isGoodWith_2 ?_
  refine g_iload k rfl dX10_isGoodWith_3 ?_
  refine g_cSv k (As := [.ref r, vi (k1 : Int), vi (x : Int), vi (y : Int)]) v_X10_tells ml_X10_153 (c_X10_tells hn hR hS (len28 hS hx hy hne hix) (k1 := k1) (x := x) (y := y)) (by omega) (by omega) rfl (Nat.le_of_ble_eq_true rfl) rfl dX10_isGoodWith_5 (fun h5 p5 => ?_)
  obtain ⟨⟨N2, nn, hR2⟩, nfr⟩ := p5
  have hm_ : h5 m = some (mo m s) := (nfr _ (by omega)).trans hm
  have hn_ : h5 r = some (ai G 86 N2) := nn
  have hu_ : h5 (m + 11) = some (ai G 64 S) := (nfr _ (by omega)).trans hu
  have fr_ : ∀ q : Nat, (q ≠ r ∧ q ≠ m + 11) → h5 q = h q := fun q hq => (nfr q (by omega)).trans (fr0 q hq)
  refine g_aload_n k rfl dX10_isGoodWith_8 ?_
  refine g_aload_n k rfl dX10_isGoodWith_9 ?_
  refine g_cVi k 10 (As := [.ref r]) v_X10_isGood rfl rfl hm_ ml_X10_266 (c_X10_isGood hm_ hn_ hR2 hS2 (by omega) hu_) (by omega) (by omega) rfl (Nat.le_of_ble_eq_true rfl) rfl dX10_isGoodWith_10 (fun r10 h10 p10 => ?_)
  obtain ⟨hz, ⟨S2, nu⟩, nfr2⟩ := p10
  have hm__1 : h10 m = some (mo m s) := (nfr2 _ (by omega)).trans hm_
  have hn__1 : h10 r = some (ai G 86 N2) := (nfr2 _ (by omega)).trans hn_
  have hu__1 : h10 (m + 11) = some (ai G 64 S2) := nu
  have fr__1 : ∀ q : Nat, (q ≠ r ∧ q ≠ m + 11) → h10 q = h q := fun q hq => (nfr2 q (by omega)).trans (fr_ q hq)
  refine g_istore k (lv2 := [(0, .ref m), (1, .ref r), (2, vi (k1 : Int)), (3, vi (x : Int)), (4, vi (y : Int)), (5, vi r10)]) (by decide) rfl rfl dX10_isGoodWith_13 ?_
  refine g_aload_n k rfl dX10_isGoodWith_15 ?_
  refine g_iconst k dX10_isGoodWith_16 ?_
  refine g_dup2 k rfl rfl dX10_isGoodWith_17 ?_
  refine g_iald k 1 hn__1 (by omega) (by omega) (by decide) dX10_isGoodWith_18 ?_
  rw [show N2 1 = ((φ ++ [(k1, x, y)]).length : Int) from hR2.n]
  refine g_iconst k dX10_isGoodWith_19 ?_
  refine g_isub k dX10_isGoodWith_20 ?_
  refine g_iast k 1 hn__1 (by omega) (by omega) (by decide) dX10_isGoodWith_21 (fun h21 eh21 => ?_)
  have hm__2 : h21 m = some (mo m s) := (congrFun eh21 _).trans ((hup_n (by omega)).trans hm__1)
  have hn__2 : h21 r = some (ai G 86 (fu N2 1 (((φ ++ [(k1, x, y)]).length : Int) - 1))) := (congrFun eh21 _).trans hup_s
  have hu__2 : h21 (m + 11) = some (ai G 64 S2) := (congrFun eh21 _).trans ((hup_n (by omega)).trans hu__1)
  have fr__2 : ∀ q : Nat, (q ≠ r ∧ q ≠ m + 11) → h21 q = h q := fun q hq => (congrFun eh21 q).trans ((hup_n (by omega)).trans (fr__1 q hq))
  refine g_iload k rfl dX10_isGoodWith_22 ?_
  rw [← hQQ]
  refine g_zreti k hz.rg rfl dX10_isGoodWith_24 ?_
  exact ⟨hz, ⟨_, hn__2, hR2.pop (by omega)⟩, ⟨_, hu__2⟩, fr__2⟩

set_option maxHeartbeats 600000 in
set_option maxRecDepth 100000 in
theorem c_X10_mays {G : Gx} {h : Hp} {nx : Nat} {m : Nat} {s : Nat → Int} (hm : h m = some (mo m s)) {N : Nat → Int} {it : Nat} {φ : Fs} (hn : h (m + 2) = some (ai G 86 N)) (hR : Rw N it φ) (hS : Sm it φ) {S : Nat → Int} (hu : h (m + 11) = some (ai G 64 S)) {Nt : Nat → Int} (ht : h (m + 8) = some (ai G 86 Nt)) (hG : Good φ) {x y : Nat} (hx : x < it) (hy : y < it) (hne : x ≠ y) : Con G yX10_mays cX10_mays 4 (some .int) 6 0 0 [.ref m, vi (x : Int), vi (y : Int)] h nx (PI fun z h' => z = (opn φ it x y : Nat) ∧ aI G 86 (h' (m + 8)) ∧ aI G 64 (h' (m + 11)) ∧ ∀ q : Nat, (q ≠ m + 8 ∧ q ≠ m + 11) → h' q = h q) := by
  obtain ⟨h8, h28, hsm⟩ := id hS
  obtain ⟨hSw, hGw, hixw, -⟩ := wo_all (x := x) (y := y) hS hG
  have hixw2 : ix (wo φ x y) (y : Int) (x : Int) = -1 := by rw [ix_sym]; exact hixw
  have hob := opn_bits hS hG hx hy
  have hol : opn φ it x y ≤ 7 := opt_le _ _ _
  have hib := @ix_b φ (x : Int) (y : Int)
  have hne2 : y ≠ x := Ne.symm hne
  refine Con.of v_X10_mays.2.2.2.2.2.1 (Nat.le_of_ble_eq_true rfl) (lv := [(0, .ref m), (1, vi (x : Int)), (2, vi (y : Int))]) rfl (fun X k => ?_)
  generalize hQQ : QM G X nx 0 0 _ = QQ
  have fr0 : ∀ q : Nat, (q ≠ m + 8 ∧ q ≠ m + 11) → h q = h q := fun _ _ => rfl
  refine g_aload_n k rfl dX10_mays_0 ?_
  refine g_get k 10 10 (C := RX10) (T := TX10) (N := 38) fl_X10_74 rfl wi_X10 (by decide) rfl hm rfl dX10_mays_1 ?_
  refine g_iconst k dX10_mays_4 ?_
  refine g_aload_n k rfl dX10_mays_5 ?_
  refine g_get k 10 16 (C := RX10) (T := TX10) (N := 38) fl_X10_92 rfl wi_X10 (by decide) rfl hm rfl dX10_mays_6 ?_
  refine g_iconst k dX10_mays_9 ?_
  refine g_cSv k (As := [.ref (m + 2), vi 0, .ref (m + 8), vi 0]) v_X10_copy ml_X10_163 (c_X10_copy (st := 0) (to := 0) hn ht (by omega) (by omega) (by omega) (by omega) (by omega)) (by omega) (by omega) rfl (Nat.le_of_ble_eq_true rfl) rfl dX10_mays_10 (fun h10 p10 => ?_)
  obtain ⟨nt, nfr⟩ := p10
  have hm_ : h10 m = some (mo m s) := (nfr _ (by omega)).trans hm
  have hn_ : h10 (m + 2) = some (ai G 86 N) := (nfr _ (by omega)).trans hn
  have hu_ : h10 (m + 11) = some (ai G 64 S) := (nfr _ (by omega)).trans hu
  have ht_ : h10 (m + 8) = some (ai G 86 (cpF N 0 Nt 0 86)) := nt
  have fr_ : ∀ q : Nat, (q ≠ m + 8 ∧ q ≠ m + 11) → h10 q = h q := fun q hq => (nfr q (by omega)).trans (fr0 q hq)
  have hRt : Rw (cpF N 0 Nt 0 86) it φ := hR.ext h28 (fun j hj => by have := @cpF_in N Nt 0 0 j hj; rw [Nat.zero_add] at this; exact this)
  refine g_aload_n k rfl dX10_mays_13 ?_
  refine g_get k 10 16 (C := RX10) (T := TX10) (N := 38) fl_X10_92 rfl wi_X10 (by decide) rfl hm_ rfl dX10_mays_14 ?_
  refine g_iload_n k rfl dX10_mays_17 ?_
  refine g_iload_n k rfl dX10_mays_18 ?_
  refine g_cSi k (As := [.ref (m + 8), vi (x : Int), vi (y : Int)]) v_X10_factOf ml_X10_142 (c_X10_factOf ht_ hRt hS (by omega) (by omega)) (by omega) (by omega) rfl (Nat.le_of_ble_eq_true rfl) rfl dX10_mays_19 (fun r19 h19 p19 => ?_)
  obtain ⟨eh19, p19⟩ := p19
  have eh19 := eh19.symm; subst eh19
  subst p19
  refine g_istore_n k (lv2 := [(0, .ref m), (1, vi (x : Int)), (2, vi (y : Int)), (3, vi (ix φ (x : Int) (y : Int)))]) (by decide) rfl rfl dX10_mays_22 ?_
  have K36 : ∀ (N5 : Nat → Int) (h36 : Hp) (hm__1 : h36 m = some (mo m s)) (hn__1 : h36 (m + 2) = some (ai G 86 N)) (hu__1 : h36 (m + 11) = some (ai G 64 S)) (ht__1 : h36 (m + 8) = some (ai G 86 N5)) (fr__1 : ∀ q : Nat, (q ≠ m + 8 ∧ q ≠ m + 11) → h36 q = h q) (hR5 : Rw N5 it (wo φ x y)), Go G X 4 QQ 0 0 nx 36 [(0, .ref m), (1, vi (x : Int)), (2, vi (y : Int))] [] h36 := by
    intro N5 h36 hm__1 hn__1 hu__1 ht__1 fr__1 hR5
    refine g_aload_n k rfl dX10_mays_36 ?_
    refine g_aload_n k rfl dX10_mays_37 ?_
    refine g_get k 10 16 (C := RX10) (T := TX10) (N := 38) fl_X10_92 rfl wi_X10 (by decide) rfl hm__1 rfl dX10_mays_38 ?_
    refine g_iconst k dX10_mays_41 ?_
    refine g_iload_n k rfl dX10_mays_42 ?_
    refine g_iload_n k rfl dX10_mays_43 ?_
    refine g_cVi k 10 (As := [.ref (m + 8), vi 0, vi (x : Int), vi (y : Int)]) v_X10_isGoodWith rfl rfl hm__1 ml_X10_270 (c_X10_isGoodWith hm__1 ht__1 hR5 hSw (by omega) hu__1 (k1 := 0) (x := x) (y := y) (by decide) hx hy hne hixw) (by omega) (by omega) rfl (Nat.le_of_ble_eq_true rfl) rfl dX10_mays_44 (fun r44 h44 p44 => ?_)
    obtain ⟨z44, ⟨N44, nt44, hR44⟩, ⟨S44, nu44⟩, nfr44⟩ := p44
    have hm__2 : h44 m = some (mo m s) := (nfr44 _ (by omega)).trans hm__1
    have hn__2 : h44 (m + 2) = some (ai G 86 N) := (nfr44 _ (by omega)).trans hn__1
    have hu__2 : h44 (m + 11) = some (ai G 64 S44) := nu44
    have ht__2 : h44 (m + 8) = some (ai G 86 N44) := nt44
    have fr__2 : ∀ q : Nat, (q ≠ m + 8 ∧ q ≠ m + 11) → h44 q = h q := fun q hq => (nfr44 q (by omega)).trans (fr__1 q hq)
    have z44r := z44.r
    have K55 : ∀ (z1 : Int) (hb1 : (Good ((wo φ x y) ++ [(0, x, y)]) ∧ z1 = 1) ∨ (¬ Good ((wo φ x y) ++ [(0, x, y)]) ∧ z1 = 0)), Go G X 4 QQ 0 0 nx 55 [(0, .ref m), (1, vi (x : Int)), (2, vi (y : Int))] [vi z1] h44 := by
      intro z1 hb1
      refine g_aload_n k rfl dX10_mays_55 ?_
      refine g_aload_n k rfl dX10_mays_56 ?_
      refine g_get k 10 16 (C := RX10) (T := TX10) (N := 38) fl_X10_92 rfl wi_X10 (by decide) rfl hm__2 rfl dX10_mays_57 ?_
      refine g_iconst k dX10_mays_60 ?_
      refine g_iload_n k rfl dX10_mays_61 ?_
      refine g_iload_n k rfl dX10_mays_62 ?_
      refine g_cVi k 10 (As := [.ref (m + 8), vi 0, vi (y : Int), vi (x : Int)]) v_X10_isGoodWith rfl rfl hm__2 ml_X10_270 (c_X10_isGoodWith hm__2 ht__2 hR44 hSw (by omega) hu__2 (k1 := 0) (x := y) (y := x) (by decide) hy hx hne2 hixw2) (by omega) (by omega) rfl (Nat.le_of_ble_eq_true rfl) rfl dX10_mays_63 (fun r63 h63 p63 => ?_)
      obtain ⟨z63, ⟨N63, nt63, hR63⟩, ⟨S63, nu63⟩, nfr63⟩ := p63
      have hm__3 : h63 m = some (mo m s) := (nfr63 _ (by omega)).trans hm__2
      have hn__3 : h63 (m + 2) = some (ai G 86 N) := (nfr63 _ (by omega)).trans hn__2
      have hu__3 : h63 (m + 11) = some (ai G 64 S63) := nu63
      have ht__3 : h63 (m + 8) = some (ai G 86 N63) := nt63
      have fr__3 : ∀ q : Nat, (q ≠ m + 8 ∧ q ≠ m + 11) → h63 q = h q := fun q hq => (nfr63 q (by omega)).trans (fr__2 q hq)
      have z63r := z63.r
      have K74 : ∀ (z2 : Int) (hb2 : (Good ((wo φ x y) ++ [(0, y, x)]) ∧ z2 = 2) ∨ (¬ Good ((wo φ x y) ++ [(0, y, x)]) ∧ z2 = 0)), Go G X 4 QQ 0 0 nx 74 [(0, .ref m), (1, vi (x : Int)), (2, vi (y : Int))] [vi z2, vi z1] h63 := by
        intro z2 hb2
        refine g_iadd k dX10_mays_74 ?_
        refine g_aload_n k rfl dX10_mays_75 ?_
        refine g_aload_n k rfl dX10_mays_76 ?_
        refine g_get k 10 16 (C := RX10) (T := TX10) (N := 38) fl_X10_92 rfl wi_X10 (by decide) rfl hm__3 rfl dX10_mays_77 ?_
        refine g_iconst k dX10_mays_80 ?_
        refine g_iload_n k rfl dX10_mays_81 ?_
        refine g_iload_n k rfl dX10_mays_82 ?_
        refine g_cVi k 10 (As := [.ref (m + 8), vi 1, vi (x : Int), vi (y : Int)]) v_X10_isGoodWith rfl rfl hm__3 ml_X10_270 (c_X10_isGoodWith hm__3 ht__3 hR63 hSw (by omega) hu__3 (k1 := 1) (x := x) (y := y) (by decide) hx hy hne hixw) (by omega) (by omega) rfl (Nat.le_of_ble_eq_true rfl) rfl dX10_mays_83 (fun r83 h83 p83 => ?_)
        obtain ⟨z83, ⟨N83, nt83, hR83⟩, ⟨S83, nu83⟩, nfr83⟩ := p83
        have hm__4 : h83 m = some (mo m s) := (nfr83 _ (by omega)).trans hm__3
        have hn__4 : h83 (m + 2) = some (ai G 86 N) := (nfr83 _ (by omega)).trans hn__3
        have hu__4 : h83 (m + 11) = some (ai G 64 S83) := nu83
        have ht__4 : h83 (m + 8) = some (ai G 86 N83) := nt83
        have fr__4 : ∀ q : Nat, (q ≠ m + 8 ∧ q ≠ m + 11) → h83 q = h q := fun q hq => (nfr83 q (by omega)).trans (fr__3 q hq)
        have z83r := z83.r
        have K94 : ∀ (z3 : Int) (hb3 : (Good ((wo φ x y) ++ [(1, x, y)]) ∧ z3 = 4) ∨ (¬ Good ((wo φ x y) ++ [(1, x, y)]) ∧ z3 = 0)), Go G X 4 QQ 0 0 nx 94 [(0, .ref m), (1, vi (x : Int)), (2, vi (y : Int))] [vi z3, vi (z1 + z2)] h83 := by
          intro z3 hb3
          refine g_iadd k dX10_mays_94 ?_
          rw [← hQQ]
          refine g_ireti k rfl dX10_mays_95 ?_
          refine ⟨?_, ⟨_, ht__4⟩, ⟨_, hu__4⟩, fr__4⟩
          rw [← hob.1] at hb1
          rw [← hob.2.1] at hb2
          rw [← hob.2.2] at hb3
          omega
        refine g_if_eq k (tgt := 93) (by omega) dX10_mays_86 (by decide) (fun c86 => ?_) (fun c86 => ?_)
        · skip
          refine g_iconst k dX10_mays_93 ?_
          exact K94 _ (Or.inr ⟨z83.f (by omega), rfl⟩)
        · skip
          refine g_iconst k dX10_mays_89 ?_
          refine g_goto k (tgt := 94) dX10_mays_90 (by decide) ?_
          exact K94 _ (Or.inl ⟨z83.t (by omega), rfl⟩)
      refine g_if_eq k (tgt := 73) (by omega) dX10_mays_66 (by decide) (fun c66 => ?_) (fun c66 => ?_)
      · skip
        refine g_iconst k dX10_mays_73 ?_
        exact K74 _ (Or.inr ⟨z63.f (by omega), rfl⟩)
      · skip
        refine g_iconst k dX10_mays_69 ?_
        refine g_goto k (tgt := 74) dX10_mays_70 (by decide) ?_
        exact K74 _ (Or.inl ⟨z63.t (by omega), rfl⟩)
    refine g_if_eq k (tgt := 54) (by omega) dX10_mays_47 (by decide) (fun c47 => ?_) (fun c47 => ?_)
    · skip
      refine g_iconst k dX10_mays_54 ?_
      exact K55 _ (Or.inr ⟨z44.f (by omega), rfl⟩)
    · skip
      refine g_iconst k dX10_mays_50 ?_
      refine g_goto k (tgt := 55) dX10_mays_51 (by decide) ?_
      exact K55 _ (Or.inl ⟨z44.t (by omega), rfl⟩)
  refine g_iload_n k rfl dX10_mays_23 ?_
  refine g_iconst k dX10_mays_24 ?_
  refine g_icmp_eq k (tgt := 36) (by omega) (by omega) dX10_mays_25 (by decide) (fun c25 => ?_) (fun c25 => ?_)
  · skip
    refine g_less (lv2 := [(0, .ref m), (1, vi (x : Int)), (2, vi (y : Int))]) ⟨rfl, rfl, rfl, trivial⟩ ?_
    exact K36 _ h10 hm_ hn_ hu_ ht_ fr_ (by unfold wo; rw [if_pos (by omega)]; exact hRt)
  · skip
    obtain ⟨k2, ek2⟩ : ∃ k2 : Nat, ix φ (x : Int) (y : Int) = k2 := ⟨(ix φ (x : Int) (y : Int)).toNat, by omega⟩
    have hk2 : k2 < φ.length := by omega
    rw [ek2]
    refine g_aload_n k rfl dX10_mays_28 ?_
    refine g_get k 10 16 (C := RX10) (T := TX10) (N := 38) fl_X10_92 rfl wi_X10 (by decide) rfl hm_ rfl dX10_mays_29 ?_
    refine g_iload_n k rfl dX10_mays_32 ?_
    refine g_cSv k (As := [.ref (m + 8), vi (k2 : Int)]) v_X10_forgets ml_X10_256 (c_X10_forgets ht_ hRt hS (k1 := k2) hk2) (by omega) (by omega) rfl (Nat.le_of_ble_eq_true rfl) rfl dX10_mays_33 (fun h33 p33 => ?_)
    obtain ⟨⟨N4, nn, hR4⟩, nfr4⟩ := p33
    have hm__5 : h33 m = some (mo m s) := (nfr4 _ (by omega)).trans hm_
    have hn__5 : h33 (m + 2) = some (ai G 86 N) := (nfr4 _ (by omega)).trans hn_
    have hu__5 : h33 (m + 11) = some (ai G 64 S) := (nfr4 _ (by omega)).trans hu_
    have ht__5 : h33 (m + 8) = some (ai G 86 N4) := nn
    have fr__5 : ∀ q : Nat, (q ≠ m + 8 ∧ q ≠ m + 11) → h33 q = h q := fun q hq => (nfr4 q (by omega)).trans (fr_ q hq)
    refine g_less (lv2 := [(0, .ref m), (1, vi (x : Int)), (2, vi (y : Int))]) ⟨rfl, rfl, rfl, trivial⟩ ?_
    exact K36 _ h33 hm__5 hn__5 hu__5 ht__5 fr__5 (by unfold wo; rw [if_neg (by omega), ek2, Int.toNat_natCast]; exact hR4)

set_option maxHeartbeats 600000 in
set_option maxRecDepth 100000 in
theorem c_X10_may {G : Gx} {h : Hp} {nx m : Nat} {it : Nat} {φ : Fs} {ps : List (Nat × Fs)} {im : Nat → Option (Nat × Fs)} {V : RV} {n : Nat} {T : Nat → Int} {ft : Nat} (hM : MS G h m it φ ps im V n T ft) (hS : Sm it φ) (hG : Good φ) {p p2 : Int} (rp : -2147483648 ≤ p ∧ p ≤ 2147483647) (rp2 : -2147483648 ≤ p2 ∧ p2 ≤ 2147483647) : Con G yX10_may cX10_may 3 (some .int) 7 0 0 [.ref m, vi p, vi p2] h nx (PI fun z h' => (((hasI it p ∧ hasI it p2 ∧ p ≠ p2) → z = (opn φ it p.toNat p2.toNat : Nat)) ∧ (¬ (hasI it p ∧ hasI it p2 ∧ p ≠ p2) → z = -1)) ∧ MT G h' m 0 it φ ps im V n T ft ∧ ∀ q : Nat, (q < m ∨ m + 17 < q) → h' q = h q) := by
  obtain ⟨th, s, ⟨hm, cq1, cq2, cq3, cq4, cq5, cq6, cq7, cq8, cq9, cq10, cq11, cq12, cq13, cq14, cq15, cq16, cq17⟩, hsc, hth⟩ := hM
  obtain ⟨z1, z6, z9, z14, z17, z15, z16⟩ := id hsc
  obtain ⟨N, hn, hR⟩ := id cq2
  obtain ⟨S, hu⟩ := id cq11
  obtain ⟨Nt, ht⟩ := id cq8
  obtain ⟨h8, h28, hsm⟩ := id hS
  refine Con.of v_X10_may.2.2.2.2.2.1 (Nat.le_of_ble_eq_true rfl) (lv := [(0, .ref m), (1, vi p), (2, vi p2)]) rfl (fun X k => ?_)
  generalize hQQ : QM G X nx 0 0 _ = QQ
  have fr0 : ∀ q : Nat, (q ≠ m ∧ q ≠ m + 8 ∧ q ≠ m + 11) → h q = h q := fun _ _ => rfl
  refine g_aload_n k rfl dX10_may_0 ?_
  refine g_iconst k dX10_may_1 ?_
  refine g_put k 10 0 (C := RX10) (T := TX10) (N := 38) fl_X10_1 rfl wi_X10 tyX10 tyX10_ok nmX10 (by decide) rfl rfl rfl rfl hm (Nat.le_of_ble_eq_true rfl) (fs2 := mol m (fu s 0 0)) rfl rfl dX10_may_2 (fun h2 eh2 => ?_)
  have hm_ : h2 m = some (mo m (fu s 0 0)) := (congrFun eh2 _).trans hup_s
  have hn_ : h2 (m + 2) = some (ai G 86 N) := (congrFun eh2 _).trans ((hup_n (by omega)).trans hn)
  have hu_ : h2 (m + 11) = some (ai G 64 S) := (congrFun eh2 _).trans ((hup_n (by omega)).trans hu)
  have ht_ : h2 (m + 8) = some (ai G 86 Nt) := (congrFun eh2 _).trans ((hup_n (by omega)).trans ht)
  have fr_ : ∀ q : Nat, (q ≠ m ∧ q ≠ m + 8 ∧ q ≠ m + 11) → h2 q = h q := fun q hq => (congrFun eh2 q).trans ((hup_n (by omega)).trans (fr0 q hq))
  refine g_aload_n k rfl dX10_may_5 ?_
  refine g_iload_n k rfl dX10_may_6 ?_
  refine g_iload_n k rfl dX10_may_7 ?_
  refine g_cVi k 10 (As := [vi p, vi p2]) v_X10_areTwo rfl rfl hm_ ml_X10_234 (c_X10_areTwo hm_ hn_ hR hS rp rp2) (by omega) (by omega) rfl (Nat.le_of_ble_eq_true rfl) rfl dX10_may_8 (fun r8 h8 p8 => ?_)
  obtain ⟨eh8, p8⟩ := p8
  have eh8 := eh8.symm; subst eh8
  have q8 := p8
  have q8r := q8.r
  refine g_if_eq k (tgt := 23) (by omega) dX10_may_11 (by decide) (fun c11 => ?_) (fun c11 => ?_)
  · skip
    refine g_iconst k dX10_may_23 ?_
    rw [← hQQ]
    refine g_ireti k rfl dX10_may_24 ?_
    exact ⟨⟨fun q => absurd q (q8.f (by omega)), fun _ => rfl⟩, ⟨_, ⟨hm_, ((fr_ (m + 1) (by omega)).trans cq1), ⟨N, hn_, hR⟩, (by rw [fr_ (m + 3) (by omega)]; exact cq3), (by rw [fr_ (m + 4) (by omega)]; exact cq4), (by rw [fr_ (m + 5) (by omega)]; exact cq5), (by rw [fr_ (m + 6) (by omega)]; exact cq6), (by rw [fr_ (m + 7) (by omega)]; exact cq7), ⟨_, ht_⟩, (by rw [fr_ (m + 9) (by omega)]; exact cq9), (by rw [fr_ (m + 10) (by omega)]; exact cq10), ⟨_, hu_⟩, (by rw [fr_ (m + 12) (by omega)]; exact cq12), (by rw [fr_ (m + 13) (by omega)]; exact cq13), (by rw [fr_ (m + 14) (by omega)]; exact cq14), (by rw [fr_ (m + 15) (by omega)]; exact cq15), (by rw [fr_ (m + 16) (by omega)]; exact cq16), (by rw [fr_ (m + 17) (by omega)]; exact cq17)⟩, hsc, rfl⟩, (fun q hq => fr_ q (by omega))⟩
  · skip
    have hh := q8.t (by omega)
    obtain ⟨x1, ex1, hx1⟩ := nat_of hh.1
    obtain ⟨y1, ey1, hy1⟩ := nat_of hh.2.1
    have hne : x1 ≠ y1 := by have := hh.2.2; omega
    rw [ex1, ey1]
    refine g_aload_n k rfl dX10_may_14 ?_
    refine g_iload_n k rfl dX10_may_15 ?_
    refine g_iload_n k rfl dX10_may_16 ?_
    refine g_cVi k 10 (As := [vi (x1 : Int), vi (y1 : Int)]) v_X10_mays rfl rfl hm_ ml_X10_273 (c_X10_mays hm_ hn_ hR hS hu_ ht_ hG (x := x1) (y := y1) hx1 hy1 hne) (by omega) (by omega) rfl (Nat.le_of_ble_eq_true rfl) rfl dX10_may_17 (fun r17 h17 p17 => ?_)
    obtain ⟨p17e, ⟨Nt2, nt⟩, ⟨S2, nu⟩, nfr⟩ := p17
    subst p17e
    have hm__1 : h17 m = some (mo m (fu s 0 0)) := (nfr _ (by omega)).trans hm_
    have hn__1 : h17 (m + 2) = some (ai G 86 N) := (nfr _ (by omega)).trans hn_
    have hu__1 : h17 (m + 11) = some (ai G 64 S2) := nu
    have ht__1 : h17 (m + 8) = some (ai G 86 Nt2) := nt
    have fr__1 : ∀ q : Nat, (q ≠ m ∧ q ≠ m + 8 ∧ q ≠ m + 11) → h17 q = h q := fun q hq => (nfr q (by omega)).trans (fr_ q hq)
    refine g_goto k (tgt := 24) dX10_may_20 (by decide) ?_
    rw [← hQQ]
    refine g_ireti k rfl dX10_may_24 ?_
    exact ⟨⟨fun _ => by rw [ex1, ey1, Int.toNat_natCast, Int.toNat_natCast], fun q => absurd hh q⟩, ⟨_, ⟨hm__1, ((fr__1 (m + 1) (by omega)).trans cq1), ⟨N, hn__1, hR⟩, (by rw [fr__1 (m + 3) (by omega)]; exact cq3), (by rw [fr__1 (m + 4) (by omega)]; exact cq4), (by rw [fr__1 (m + 5) (by omega)]; exact cq5), (by rw [fr__1 (m + 6) (by omega)]; exact cq6), (by rw [fr__1 (m + 7) (by omega)]; exact cq7), ⟨_, ht__1⟩, (by rw [fr__1 (m + 9) (by omega)]; exact cq9), (by rw [fr__1 (m + 10) (by omega)]; exact cq10), ⟨_, hu__1⟩, (by rw [fr__1 (m + 12) (by omega)]; exact cq12), (by rw [fr__1 (m + 13) (by omega)]; exact cq13), (by rw [fr__1 (m + 14) (by omega)]; exact cq14), (by rw [fr__1 (m + 15) (by omega)]; exact cq15), (by rw [fr__1 (m + 16) (by omega)]; exact cq16), (by rw [fr__1 (m + 17) (by omega)]; exact cq17)⟩, hsc, rfl⟩, (fun q hq => fr__1 q (by omega))⟩

set_option maxHeartbeats 600000 in
set_option maxRecDepth 100000 in
theorem c_X10_idle {G : Gx} {h : Hp} {nx m : Nat} {it : Nat} {φ : Fs} {ps : List (Nat × Fs)} {im : Nat → Option (Nat × Fs)} {V : RV} {n : Nat} {T : Nat → Int} {ft : Nat} (hM : MS G h m it φ ps im V n T ft) (hS : Sm it φ) (hG : Good φ) : Con G yX10_idle cX10_idle 3 (some .int) 7 0 0 [.ref m] h nx (PI fun z h' => z = (bF (fun k => pc8 (opn φ it (fi φ k) (se φ k)) = 1) φ.length : Nat) ∧ MT G h' m 0 it φ ps im V n T ft ∧ ∀ q : Nat, (q < m ∨ m + 17 < q) → h' q = h q) := by
  obtain ⟨th, s, ⟨hm, cq1, cq2, cq3, cq4, cq5, cq6, cq7, cq8, cq9, cq10, cq11, cq12, cq13, cq14, cq15, cq16, cq17⟩, hsc, hth⟩ := hM
  obtain ⟨z1, z6, z9, z14, z17, z15, z16⟩ := id hsc
  obtain ⟨N, hn, hR⟩ := id cq2
  obtain ⟨S, hu⟩ := id cq11
  obtain ⟨Nt, ht⟩ := id cq8
  obtain ⟨h8, h28, hsm⟩ := id hS
  refine Con.of v_X10_idle.2.2.2.2.2.1 (Nat.le_of_ble_eq_true rfl) (lv := [(0, .ref m)]) rfl (fun X k => ?_)
  generalize hQQ : QM G X nx 0 0 _ = QQ
  have fr0 : ∀ q : Nat, (q ≠ m ∧ q ≠ m + 8 ∧ q ≠ m + 11) → h q = h q := fun _ _ => rfl
  refine g_aload_n k rfl dX10_idle_0 ?_
  refine g_iconst k dX10_idle_1 ?_
  refine g_put k 10 0 (C := RX10) (T := TX10) (N := 38) fl_X10_1 rfl wi_X10 tyX10 tyX10_ok nmX10 (by decide) rfl rfl rfl rfl hm (Nat.le_of_ble_eq_true rfl) (fs2 := mol m (fu s 0 0)) rfl rfl dX10_idle_2 (fun h2 eh2 => ?_)
  have hm_ : h2 m = some (mo m (fu s 0 0)) := (congrFun eh2 _).trans hup_s
  have hn_ : h2 (m + 2) = some (ai G 86 N) := (congrFun eh2 _).trans ((hup_n (by omega)).trans hn)
  have hu_ : h2 (m + 11) = some (ai G 64 S) := (congrFun eh2 _).trans ((hup_n (by omega)).trans hu)
  have ht_ : h2 (m + 8) = some (ai G 86 Nt) := (congrFun eh2 _).trans ((hup_n (by omega)).trans ht)
  have fr_ : ∀ q : Nat, (q ≠ m ∧ q ≠ m + 8 ∧ q ≠ m + 11) → h2 q = h q := fun q hq => (congrFun eh2 q).trans ((hup_n (by omega)).trans (fr0 q hq))
  refine g_iconst k dX10_idle_5 ?_
  refine g_istore_n k (lv2 := [(0, .ref m), (1, vi 0)]) (by decide) rfl rfl dX10_idle_6 ?_
  refine g_iconst k dX10_idle_7 ?_
  refine g_istore_n k (lv2 := [(0, .ref m), (1, vi 0), (2, vi 0)]) (by decide) rfl rfl dX10_idle_8 ?_
  have K9 : ∀ (nz : Nat) (v : Nat) (S1 : Nat → Int) (N1 : Nat → Int) (h9 : Hp) (hm__1 : h9 m = some (mo m (fu s 0 0))) (hn__1 : h9 (m + 2) = some (ai G 86 N)) (hu__1 : h9 (m + 11) = some (ai G 64 S1)) (ht__1 : h9 (m + 8) = some (ai G 86 N1)) (fr__1 : ∀ q : Nat, (q ≠ m ∧ q ≠ m + 8 ∧ q ≠ m + 11) → h9 q = h q) (hv : v ≤ φ.length) (hmz : φ.length - v < nz), Go G X 3 QQ 0 0 nx 9 [(0, .ref m), (1, vi (bF (fun k => pc8 (opn φ it (fi φ k) (se φ k)) = 1) v : Int)), (2, vi (v : Int))] [] h9 := by
    intro nz
    induction nz with
    | zero => intro v S1 N1 h9 hm__1 hn__1 hu__1 ht__1 fr__1 hv hmz; exact absurd hmz (Nat.not_lt_zero _)
    | succ nz ih9 =>
      intro v S1 N1 h9 hm__1 hn__1 hu__1 ht__1 fr__1 hv hmz
      refine g_iload_n k rfl dX10_idle_9 ?_
      refine g_aload_n k rfl dX10_idle_10 ?_
      refine g_cVi k 10 (As := []) v_X10_facts rfl rfl hm__1 ml_X10_237 (c_X10_facts hm__1 hn__1 hR hS) (by omega) (by omega) rfl (Nat.le_of_ble_eq_true rfl) rfl dX10_idle_11 (fun r11 h11 p11 => ?_)
      obtain ⟨eh11, p11⟩ := p11
      have eh11 := eh11.symm; subst eh11
      subst p11
      refine g_icmp_ge k (tgt := 58) (by omega) (by omega) dX10_idle_14 (by decide) (fun c14 => ?_) (fun c14 => ?_)
      · skip
        refine g_iload_n k rfl dX10_idle_58 ?_
        rw [← hQQ]
        refine g_ireti k rfl dX10_idle_59 ?_
        have e : v = φ.length := by omega
        exact ⟨(by rw [e]), ⟨_, ⟨hm__1, ((fr__1 (m + 1) (by omega)).trans cq1), ⟨N, hn__1, hR⟩, (by rw [fr__1 (m + 3) (by omega)]; exact cq3), (by rw [fr__1 (m + 4) (by omega)]; exact cq4), (by rw [fr__1 (m + 5) (by omega)]; exact cq5), (by rw [fr__1 (m + 6) (by omega)]; exact cq6), (by rw [fr__1 (m + 7) (by omega)]; exact cq7), ⟨_, ht__1⟩, (by rw [fr__1 (m + 9) (by omega)]; exact cq9), (by rw [fr__1 (m + 10) (by omega)]; exact cq10), ⟨_, hu__1⟩, (by rw [fr__1 (m + 12) (by omega)]; exact cq12), (by rw [fr__1 (m + 13) (by omega)]; exact cq13), (by rw [fr__1 (m + 14) (by omega)]; exact cq14), (by rw [fr__1 (m + 15) (by omega)]; exact cq15), (by rw [fr__1 (m + 16) (by omega)]; exact cq16), (by rw [fr__1 (m + 17) (by omega)]; exact cq17)⟩, hsc, rfl⟩, (fun q hq => fr__1 q (by omega))⟩
      · skip
        have hb := hsm v (by omega)
        have hol : opn φ it (fi φ v) (se φ v) ≤ 7 := opt_le _ _ _
        have hpl := pc8_le (opn φ it (fi φ v) (se φ v))
        have hp := pow31 (n := v) (by omega)
        have hq := bF_lt (fun k => pc8 (opn φ it (fi φ k) (se φ k)) = 1) v
        refine g_aload_n k rfl dX10_idle_17 ?_
        refine g_aload_n k rfl dX10_idle_18 ?_
        refine g_get k 10 10 (v := .ref (m + 2)) (C := RX10) (T := TX10) (N := 38) fl_X10_74 rfl wi_X10 (by decide) rfl hm__1 rfl dX10_idle_19 ?_
        refine g_bipush k rfl dX10_idle_22 ?_
        refine g_iload_n k rfl dX10_idle_24 ?_
        refine g_iadd k dX10_idle_25 ?_
        refine g_iald k (30 + v) hn__1 (by omega) (by omega) (by decide) dX10_idle_26 ?_
        rw [show N (30 + v) = (fi (φ) v : Int) from hR.f (by omega)]
        refine g_aload_n k rfl dX10_idle_27 ?_
        refine g_get k 10 10 (v := .ref (m + 2)) (C := RX10) (T := TX10) (N := 38) fl_X10_74 rfl wi_X10 (by decide) rfl hm__1 rfl dX10_idle_28 ?_
        refine g_bipush k rfl dX10_idle_31 ?_
        refine g_iload_n k rfl dX10_idle_33 ?_
        refine g_iadd k dX10_idle_34 ?_
        refine g_iald k (58 + v) hn__1 (by omega) (by omega) (by decide) dX10_idle_35 ?_
        rw [show N (58 + v) = (se (φ) v : Int) from hR.s (by omega)]
        refine g_cVi k 10 (As := [vi (fi (φ) v : Int), vi (se (φ) v : Int)]) v_X10_mays rfl rfl hm__1 ml_X10_273 (c_X10_mays hm__1 hn__1 hR hS hu__1 ht__1 hG (x := fi φ v) (y := se φ v) hb.2.1 hb.2.2.1 hb.2.2.2.1) (by omega) (by omega) rfl (Nat.le_of_ble_eq_true rfl) rfl dX10_idle_36 (fun r36 h36 p36 => ?_)
        obtain ⟨p36e, ⟨Nt2, nt⟩, ⟨S2, nu⟩, nfr⟩ := p36
        subst p36e
        have hm__2 : h36 m = some (mo m (fu s 0 0)) := (nfr _ (by omega)).trans hm__1
        have hn__2 : h36 (m + 2) = some (ai G 86 N) := (nfr _ (by omega)).trans hn__1
        have hu__2 : h36 (m + 11) = some (ai G 64 S2) := nu
        have ht__2 : h36 (m + 8) = some (ai G 86 Nt2) := nt
        have fr__2 : ∀ q : Nat, (q ≠ m ∧ q ≠ m + 8 ∧ q ≠ m + 11) → h36 q = h q := fun q hq => (nfr q (by omega)).trans (fr__1 q hq)
        refine g_cSi k (As := [vi (opn φ it (fi φ v) (se φ v) : Int)]) v_X10_bits ml_X10_276 (c_X10_bits (w := opn φ it (fi φ v) (se φ v)) (by omega)) (by omega) (by omega) rfl (Nat.le_of_ble_eq_true rfl) rfl dX10_idle_39 (fun r39 h39 p39 => ?_)
        obtain ⟨eh39, p39⟩ := p39
        have eh39 := eh39.symm; subst eh39
        rw [pcH_pc _ hol] at p39
        subst p39
        refine g_iconst k dX10_idle_42 ?_
        refine g_icmp_ne k (tgt := 52) (by omega) (by omega) dX10_idle_43 (by decide) (fun c43 => ?_) (fun c43 => ?_)
        · skip
          refine g_iinc k (lv2 := [(0, .ref m), (1, vi (bF (fun k => pc8 (opn φ it (fi φ k) (se φ k)) = 1) v : Int)), (2, vi ((v : Int) + 1))]) rfl (by decide) rfl rfl dX10_idle_52 ?_
          refine g_goto k (tgt := 9) dX10_idle_55 (by decide) ?_
          rw [show bF (fun k => pc8 (opn φ it (fi φ k) (se φ k)) = 1) v = bF (fun k => pc8 (opn φ it (fi φ k) (se φ k)) = 1) (v + 1) from (bF_n (P := (fun k => pc8 (opn φ it (fi φ k) (se φ k)) = 1)) (by omega)).symm]
          exact ih9 (v + 1) _ _ h36 hm__2 hn__2 hu__2 ht__2 fr__2 (by omega) (by omega)
        · skip
          refine g_iload_n k rfl dX10_idle_46 ?_
          refine g_iconst k dX10_idle_47 ?_
          refine g_iload_n k rfl dX10_idle_48 ?_
          refine g_ishl k (by omega) dX10_idle_49 ?_
          rw [show 1 * 2 ^ ((v : Int)).toNat = ((2 ^ v : Nat) : Int) from (by rw [Int.toNat_natCast]; simp)]
          refine g_ior k (a := bF (fun k => pc8 (opn φ it (fi φ k) (se φ k)) = 1) v) (b := 2 ^ v) (by omega) (by omega) dX10_idle_50 ?_
          refine g_istore_n k (lv2 := [(0, .ref m), (1, vi ((bF (fun k => pc8 (opn φ it (fi φ k) (se φ k)) = 1) v ||| 2 ^ v : Nat) : Int)), (2, vi (v : Int))]) (by decide) rfl rfl dX10_idle_51 ?_
          refine g_iinc k (lv2 := [(0, .ref m), (1, vi ((bF (fun k => pc8 (opn φ it (fi φ k) (se φ k)) = 1) v ||| 2 ^ v : Nat) : Int)), (2, vi ((v : Int) + 1))]) rfl (by decide) rfl rfl dX10_idle_52 ?_
          refine g_goto k (tgt := 9) dX10_idle_55 (by decide) ?_
          rw [show bF (fun k => pc8 (opn φ it (fi φ k) (se φ k)) = 1) v ||| 2 ^ v = bF (fun k => pc8 (opn φ it (fi φ k) (se φ k)) = 1) (v + 1) from (bF_y (P := (fun k => pc8 (opn φ it (fi φ k) (se φ k)) = 1)) (by omega)).symm]
          exact ih9 (v + 1) _ _ h36 hm__2 hn__2 hu__2 ht__2 fr__2 (by omega) (by omega)
  exact K9 _ 0 _ _ h2 hm_ hn_ hu_ ht_ fr_ (Nat.zero_le _) (Nat.lt_succ_self _)

set_option maxHeartbeats 600000 in
set_option maxRecDepth 100000 in
theorem c_X10_laysOrder {G : Gx} {h : Hp} {nx : Nat} {m : Nat} {s : Nat → Int} (hm : h m = some (mo m s)) {N : Nat → Int} {it : Nat} {φ : Fs} (hn : h (m + 2) = some (ai G 86 N)) (hR : Rw N it φ) (hS : Sm it φ) {S : Nat → Int} (hu : h (m + 11) = some (ai G 64 S)) {Bg : Nat → Int} (hg : h (m + 15) = some (ai G 8 Bg)) {L : Nat} (hL : isL φ it L) : Con G yX10_laysOrder cX10_laysOrder 1 none 5 0 0 [.ref m] h nx (PV fun h' => (h' m = some (mo m (fu s 19 (L : Int))) ∧ aI G 64 (h' (m + 11)) ∧ ∃ B2 : Nat → Int, h' (m + 15) = some (ai G 8 B2) ∧ ∀ v, v < it → B2 v = bgn φ it L v) ∧ ∀ q : Nat, (q ≠ m ∧ q ≠ m + 11 ∧ q ≠ m + 15) → h' q = h q) := by
  obtain ⟨h8, h28, hsm⟩ := id hS
  obtain ⟨l1, l2, l3, l4⟩ := id hL
  refine Con.of v_X10_laysOrder.2.2.2.2.2.1 (Nat.le_of_ble_eq_true rfl) (lv := [(0, .ref m)]) rfl (fun X k => ?_)
  generalize hQQ : QM G X nx 0 0 _ = QQ
  have fr0 : ∀ q : Nat, (q ≠ m ∧ q ≠ m + 11 ∧ q ≠ m + 15) → h q = h q := fun _ _ => rfl
  refine g_aload_n k rfl dX10_laysOrder_0 ?_
  refine g_aload_n k rfl dX10_laysOrder_1 ?_
  refine g_aload_n k rfl dX10_laysOrder_2 ?_
  refine g_get k 10 10 (C := RX10) (T := TX10) (N := 38) fl_X10_74 rfl wi_X10 (by decide) rfl hm rfl dX10_laysOrder_3 ?_
  refine g_cVi k 10 (As := [.ref (m + 2)]) v_X10_leastOf rfl rfl hm ml_X10_243 (c_X10_leastOf hm hn hR hS (by omega) hu hL) (by omega) (by omega) rfl (Nat.le_of_ble_eq_true rfl) rfl dX10_laysOrder_6 (fun r6 h6 p6 => ?_)
  obtain ⟨p6e, ⟨S2, nu⟩, nfr⟩ := p6
  subst p6e
  have hm_ : h6 m = some (mo m s) := (nfr _ (by omega)).trans hm
  have hn_ : h6 (m + 2) = some (ai G 86 N) := (nfr _ (by omega)).trans hn
  have hu_ : h6 (m + 11) = some (ai G 64 S2) := nu
  have hg_ : h6 (m + 15) = some (ai G 8 Bg) := (nfr _ (by omega)).trans hg
  have fr_ : ∀ q : Nat, (q ≠ m ∧ q ≠ m + 11 ∧ q ≠ m + 15) → h6 q = h q := fun q hq => (nfr q (by omega)).trans (fr0 q hq)
  refine g_put k 10 34 (C := RX10) (T := TX10) (N := 38) fl_X10_293 rfl wi_X10 tyX10 tyX10_ok nmX10 (by decide) rfl rfl rfl rfl hm_ (Nat.le_of_ble_eq_true rfl) (fs2 := mol m (fu s 19 (L : Int))) rfl rfl dX10_laysOrder_9 (fun h9 eh9 => ?_)
  have hm__1 : h9 m = some (mo m (fu s 19 (L : Int))) := (congrFun eh9 _).trans hup_s
  have hn__1 : h9 (m + 2) = some (ai G 86 N) := (congrFun eh9 _).trans ((hup_n (by omega)).trans hn_)
  have hu__1 : h9 (m + 11) = some (ai G 64 S2) := (congrFun eh9 _).trans ((hup_n (by omega)).trans hu_)
  have hg__1 : h9 (m + 15) = some (ai G 8 Bg) := (congrFun eh9 _).trans ((hup_n (by omega)).trans hg_)
  have fr__1 : ∀ q : Nat, (q ≠ m ∧ q ≠ m + 11 ∧ q ≠ m + 15) → h9 q = h q := fun q hq => (congrFun eh9 q).trans ((hup_n (by omega)).trans (fr_ q hq))
  refine g_aload_n k rfl dX10_laysOrder_12 ?_
  refine g_aload_n k rfl dX10_laysOrder_13 ?_
  refine g_get k 10 34 (v := vi (L : Int)) (C := RX10) (T := TX10) (N := 38) fl_X10_293 rfl wi_X10 (by decide) rfl hm__1 rfl dX10_laysOrder_14 ?_
  refine g_cVv k 10 (As := [vi (L : Int)]) v_X10_laysBegins rfl rfl hm__1 ml_X10_262 (c_X10_laysBegins hm__1 hn__1 hR hS hu__1 hg__1 (L := (L : Int)) (by omega) l3) (by omega) (by omega) rfl (Nat.le_of_ble_eq_true rfl) rfl dX10_laysOrder_17 (fun h17 p17 => ?_)
  obtain ⟨⟨S9, B9, nu9, ng9, hval, hBg⟩, nfr9⟩ := p17
  have hm__2 : h17 m = some (mo m (fu s 19 (L : Int))) := (nfr9 _ (by omega)).trans hm__1
  have hn__2 : h17 (m + 2) = some (ai G 86 N) := (nfr9 _ (by omega)).trans hn__1
  have hu__2 : h17 (m + 11) = some (ai G 64 S9) := nu9
  have hg__2 : h17 (m + 15) = some (ai G 8 B9) := ng9
  have fr__2 : ∀ q : Nat, (q ≠ m ∧ q ≠ m + 11 ∧ q ≠ m + 15) → h17 q = h q := fun q hq => (nfr9 q (by omega)).trans (fr__1 q hq)
  rw [← hQQ]
  refine g_retv k rfl dX10_laysOrder_20 ?_
  exact ⟨⟨hm__2, ⟨_, hu__2⟩, B9, hg__2, hBg⟩, fr__2⟩

set_option maxHeartbeats 600000 in
set_option maxRecDepth 100000 in
theorem c_X10_isAhead {G : Gx} {h : Hp} {nx : Nat} {m : Nat} {s : Nat → Int} (hm : h m = some (mo m s)) {Bg : Nat → Int} (hg : h (m + 15) = some (ai G 8 Bg)) {it : Nat} {B : Nat → Int} {L : Int} (hO : OK8 B it) (hB : ∀ v, v < it → Bg v = B v) (z19 : s 19 = L) (hL : 1 ≤ L ∧ L ≤ 60) {x y : Nat} (hx : x < it) (hy : y < it) : Con G yX10_isAhead cX10_isAhead 3 (some .boolean) 1 0 0 [.ref m, vi (x : Int), vi (y : Int)] h nx (PI fun z h' => h' = h ∧ bz (pre B L x y) z) := by
  obtain ⟨h8, hob⟩ := hO
  have h1 := hob x hx
  have h2 := hob y hy
  refine Con.of v_X10_isAhead.2.2.2.2.2.1 (Nat.le_of_ble_eq_true rfl) (lv := [(0, .ref m), (1, vi (x : Int)), (2, vi (y : Int))]) rfl (fun X k => ?_)
  generalize hQQ : QM G X nx 0 0 _ = QQ
  refine g_aload_n k rfl dX10_isAhead_0 ?_
  refine g_get k 10 32 (C := RX10) (T := TX10) (N := 38) fl_X10_118 rfl wi_X10 (by decide) rfl hm rfl dX10_isAhead_1 ?_
  refine g_iload_n k rfl dX10_isAhead_4 ?_
  refine g_iald k x hg (by omega) (by omega) (by decide) dX10_isAhead_5 ?_
  rw [show Bg x = B x from hB x hx]
  refine g_aload_n k rfl dX10_isAhead_6 ?_
  refine g_get k 10 34 (C := RX10) (T := TX10) (N := 38) fl_X10_293 rfl wi_X10 (by decide) rfl hm rfl dX10_isAhead_7 ?_
  refine g_iadd k dX10_isAhead_10 ?_
  refine g_aload_n k rfl dX10_isAhead_11 ?_
  refine g_get k 10 32 (C := RX10) (T := TX10) (N := 38) fl_X10_118 rfl wi_X10 (by decide) rfl hm rfl dX10_isAhead_12 ?_
  refine g_iload_n k rfl dX10_isAhead_15 ?_
  refine g_iald k y hg (by omega) (by omega) (by decide) dX10_isAhead_16 ?_
  rw [show Bg y = B y from hB y hy]
  refine g_icmp_gt k (tgt := 24) (by omega) (by omega) dX10_isAhead_17 (by decide) (fun c17 => ?_) (fun c17 => ?_)
  · skip
    refine g_iconst k dX10_isAhead_24 ?_
    rw [← hQQ]
    refine g_zreti k (by omega) rfl dX10_isAhead_25 ?_
    exact ⟨rfl, bz.n (by unfold pre; omega)⟩
  · skip
    refine g_iconst k dX10_isAhead_20 ?_
    refine g_goto k (tgt := 25) dX10_isAhead_21 (by decide) ?_
    rw [← hQQ]
    refine g_zreti k (by omega) rfl dX10_isAhead_25 ?_
    exact ⟨rfl, bz.y (by unfold pre; omega)⟩

set_option maxHeartbeats 600000 in
set_option maxRecDepth 100000 in
theorem c_X10_ahead {G : Gx} {h : Hp} {nx m : Nat} {it : Nat} {φ : Fs} {ps : List (Nat × Fs)} {im : Nat → Option (Nat × Fs)} {V : RV} {n : Nat} {T : Nat → Int} {ft : Nat} (hM : MS G h m it φ ps im V n T ft) (hS : Sm it φ) {L : Nat} (hL : isL φ it L) {p p2 : Int} (rp : -2147483648 ≤ p ∧ p ≤ 2147483647) (rp2 : -2147483648 ≤ p2 ∧ p2 ≤ 2147483647) : Con G yX10_ahead cX10_ahead 3 (some .int) 6 0 0 [.ref m, vi p, vi p2] h nx (PI fun z h' => (((hasI it p ∧ hasI it p2) → bz (pre (bgn φ it L) L p.toNat p2.toNat) z) ∧ (¬ (hasI it p ∧ hasI it p2) → z = -1)) ∧ MT G h' m 0 it φ ps im V n T ft ∧ ∀ q : Nat, (q < m ∨ m + 17 < q) → h' q = h q) := by
  obtain ⟨th, s, ⟨hm, cq1, cq2, cq3, cq4, cq5, cq6, cq7, cq8, cq9, cq10, cq11, cq12, cq13, cq14, cq15, cq16, cq17⟩, hsc, hth⟩ := hM
  obtain ⟨z1, z6, z9, z14, z17, z15, z16⟩ := id hsc
  obtain ⟨N, hn, hR⟩ := id cq2
  obtain ⟨S, hu⟩ := id cq11
  obtain ⟨Bg, hg⟩ := id cq15
  obtain ⟨h8, h28, hsm⟩ := id hS
  have hO := bgn_ok hS.1 hL
  obtain ⟨l1, l2, l3, l4⟩ := id hL
  have hL60 : 1 ≤ (L : Int) ∧ (L : Int) ≤ 60 := by omega
  refine Con.of v_X10_ahead.2.2.2.2.2.1 (Nat.le_of_ble_eq_true rfl) (lv := [(0, .ref m), (1, vi p), (2, vi p2)]) rfl (fun X k => ?_)
  generalize hQQ : QM G X nx 0 0 _ = QQ
  have fr0 : ∀ q : Nat, (q ≠ m ∧ q ≠ m + 11 ∧ q ≠ m + 15) → h q = h q := fun _ _ => rfl
  refine g_aload_n k rfl dX10_ahead_0 ?_
  refine g_iconst k dX10_ahead_1 ?_
  refine g_put k 10 0 (C := RX10) (T := TX10) (N := 38) fl_X10_1 rfl wi_X10 tyX10 tyX10_ok nmX10 (by decide) rfl rfl rfl rfl hm (Nat.le_of_ble_eq_true rfl) (fs2 := mol m (fu s 0 0)) rfl rfl dX10_ahead_2 (fun h2 eh2 => ?_)
  have hm_ : h2 m = some (mo m (fu s 0 0)) := (congrFun eh2 _).trans hup_s
  have hn_ : h2 (m + 2) = some (ai G 86 N) := (congrFun eh2 _).trans ((hup_n (by omega)).trans hn)
  have hu_ : h2 (m + 11) = some (ai G 64 S) := (congrFun eh2 _).trans ((hup_n (by omega)).trans hu)
  have hg_ : h2 (m + 15) = some (ai G 8 Bg) := (congrFun eh2 _).trans ((hup_n (by omega)).trans hg)
  have fr_ : ∀ q : Nat, (q ≠ m ∧ q ≠ m + 11 ∧ q ≠ m + 15) → h2 q = h q := fun q hq => (congrFun eh2 q).trans ((hup_n (by omega)).trans (fr0 q hq))
  refine g_aload_n k rfl dX10_ahead_5 ?_
  refine g_iload_n k rfl dX10_ahead_6 ?_
  refine g_cVi k 10 (As := [vi p]) v_X10_isItem rfl rfl hm_ ml_X10_231 (c_X10_isItem hm_ hn_ hR hS rp) (by omega) (by omega) rfl (Nat.le_of_ble_eq_true rfl) rfl dX10_ahead_7 (fun r7 h7 p7 => ?_)
  obtain ⟨eh7, p7⟩ := p7
  have eh7 := eh7.symm; subst eh7
  have q7 := p7
  have q7r := q7.r
  refine g_if_eq k (tgt := 21) (by omega) dX10_ahead_10 (by decide) (fun c10 => ?_) (fun c10 => ?_)
  · skip
    refine g_iconst k dX10_ahead_21 ?_
    rw [← hQQ]
    refine g_ireti k rfl dX10_ahead_22 ?_
    exact ⟨⟨fun q => absurd q.1 (q7.f (by omega)), fun _ => rfl⟩, ⟨_, ⟨hm_, ((fr_ (m + 1) (by omega)).trans cq1), ⟨N, hn_, hR⟩, (by rw [fr_ (m + 3) (by omega)]; exact cq3), (by rw [fr_ (m + 4) (by omega)]; exact cq4), (by rw [fr_ (m + 5) (by omega)]; exact cq5), (by rw [fr_ (m + 6) (by omega)]; exact cq6), (by rw [fr_ (m + 7) (by omega)]; exact cq7), (by rw [fr_ (m + 8) (by omega)]; exact cq8), (by rw [fr_ (m + 9) (by omega)]; exact cq9), (by rw [fr_ (m + 10) (by omega)]; exact cq10), ⟨_, hu_⟩, (by rw [fr_ (m + 12) (by omega)]; exact cq12), (by rw [fr_ (m + 13) (by omega)]; exact cq13), (by rw [fr_ (m + 14) (by omega)]; exact cq14), ⟨_, hg_⟩, (by rw [fr_ (m + 16) (by omega)]; exact cq16), (by rw [fr_ (m + 17) (by omega)]; exact cq17)⟩, hsc, rfl⟩, (fun q hq => fr_ q (by omega))⟩
  · skip
    refine g_aload_n k rfl dX10_ahead_13 ?_
    refine g_iload_n k rfl dX10_ahead_14 ?_
    refine g_cVi k 10 (As := [vi p2]) v_X10_isItem rfl rfl hm_ ml_X10_231 (c_X10_isItem hm_ hn_ hR hS rp2) (by omega) (by omega) rfl (Nat.le_of_ble_eq_true rfl) rfl dX10_ahead_15 (fun r15 h15 p15 => ?_)
    obtain ⟨eh15, p15⟩ := p15
    have eh15 := eh15.symm; subst eh15
    have q15 := p15
    have q15r := q15.r
    refine g_if_ne k (tgt := 23) (by omega) dX10_ahead_18 (by decide) (fun c18 => ?_) (fun c18 => ?_)
    · skip
      have hi := q7.t (by omega)
      have hj := q15.t (by omega)
      obtain ⟨x1, ex1, hx1⟩ := nat_of hi
      obtain ⟨y1, ey1, hy1⟩ := nat_of hj
      rw [ex1, ey1]
      refine g_aload_n k rfl dX10_ahead_23 ?_
      refine g_cVv k 10 (As := []) v_X10_laysOrder rfl rfl hm_ ml_X10_296 (c_X10_laysOrder hm_ hn_ hR hS hu_ hg_ hL) (by omega) (by omega) rfl (Nat.le_of_ble_eq_true rfl) rfl dX10_ahead_24 (fun h24 p24 => ?_)
      obtain ⟨⟨nm9, ⟨S9, nu9⟩, B9, ng9, hBg⟩, nfr9⟩ := p24
      have hm__1 : h24 m = some (mo m (fu (fu s 0 0) 19 (L : Int))) := nm9
      have hn__1 : h24 (m + 2) = some (ai G 86 N) := (nfr9 _ (by omega)).trans hn_
      have hu__1 : h24 (m + 11) = some (ai G 64 S9) := nu9
      have hg__1 : h24 (m + 15) = some (ai G 8 B9) := ng9
      have fr__1 : ∀ q : Nat, (q ≠ m ∧ q ≠ m + 11 ∧ q ≠ m + 15) → h24 q = h q := fun q hq => (nfr9 q (by omega)).trans (fr_ q hq)
      refine g_aload_n k rfl dX10_ahead_27 ?_
      refine g_iload_n k rfl dX10_ahead_28 ?_
      refine g_iload_n k rfl dX10_ahead_29 ?_
      refine g_cVi k 10 (As := [vi (x1 : Int), vi (y1 : Int)]) v_X10_isAhead rfl rfl hm__1 ml_X10_299 (c_X10_isAhead hm__1 hg__1 hO hBg rfl hL60 (x := x1) (y := y1) hx1 hy1) (by omega) (by omega) rfl (Nat.le_of_ble_eq_true rfl) rfl dX10_ahead_30 (fun r30 h30 p30 => ?_)
      obtain ⟨eh30, p30⟩ := p30
      have eh30 := eh30.symm; subst eh30
      have q30 := p30
      have q30r := q30.r
      refine g_if_eq k (tgt := 40) (by omega) dX10_ahead_33 (by decide) (fun c33 => ?_) (fun c33 => ?_)
      · skip
        refine g_iconst k dX10_ahead_40 ?_
        rw [← hQQ]
        refine g_ireti k rfl dX10_ahead_41 ?_
        exact ⟨⟨fun _ => by rw [ex1, ey1, Int.toNat_natCast, Int.toNat_natCast]; exact bz.n (q30.f (by omega)), fun q => absurd ⟨hi, hj⟩ q⟩, ⟨_, ⟨hm__1, ((fr__1 (m + 1) (by omega)).trans cq1), ⟨N, hn__1, hR⟩, (by rw [fr__1 (m + 3) (by omega)]; exact cq3), (by rw [fr__1 (m + 4) (by omega)]; exact cq4), (by rw [fr__1 (m + 5) (by omega)]; exact cq5), (by rw [fr__1 (m + 6) (by omega)]; exact cq6), (by rw [fr__1 (m + 7) (by omega)]; exact cq7), (by rw [fr__1 (m + 8) (by omega)]; exact cq8), (by rw [fr__1 (m + 9) (by omega)]; exact cq9), (by rw [fr__1 (m + 10) (by omega)]; exact cq10), ⟨_, hu__1⟩, (by rw [fr__1 (m + 12) (by omega)]; exact cq12), (by rw [fr__1 (m + 13) (by omega)]; exact cq13), (by rw [fr__1 (m + 14) (by omega)]; exact cq14), ⟨_, hg__1⟩, (by rw [fr__1 (m + 16) (by omega)]; exact cq16), (by rw [fr__1 (m + 17) (by omega)]; exact cq17)⟩, hsc, rfl⟩, (fun q hq => fr__1 q (by omega))⟩
      · skip
        refine g_iconst k dX10_ahead_36 ?_
        refine g_goto k (tgt := 41) dX10_ahead_37 (by decide) ?_
        rw [← hQQ]
        refine g_ireti k rfl dX10_ahead_41 ?_
        exact ⟨⟨fun _ => by rw [ex1, ey1, Int.toNat_natCast, Int.toNat_natCast]; exact bz.y (q30.t (by omega)), fun q => absurd ⟨hi, hj⟩ q⟩, ⟨_, ⟨hm__1, ((fr__1 (m + 1) (by omega)).trans cq1), ⟨N, hn__1, hR⟩, (by rw [fr__1 (m + 3) (by omega)]; exact cq3), (by rw [fr__1 (m + 4) (by omega)]; exact cq4), (by rw [fr__1 (m + 5) (by omega)]; exact cq5), (by rw [fr__1 (m + 6) (by omega)]; exact cq6), (by rw [fr__1 (m + 7) (by omega)]; exact cq7), (by rw [fr__1 (m + 8) (by omega)]; exact cq8), (by rw [fr__1 (m + 9) (by omega)]; exact cq9), (by rw [fr__1 (m + 10) (by omega)]; exact cq10), ⟨_, hu__1⟩, (by rw [fr__1 (m + 12) (by omega)]; exact cq12), (by rw [fr__1 (m + 13) (by omega)]; exact cq13), (by rw [fr__1 (m + 14) (by omega)]; exact cq14), ⟨_, hg__1⟩, (by rw [fr__1 (m + 16) (by omega)]; exact cq16), (by rw [fr__1 (m + 17) (by omega)]; exact cq17)⟩, hsc, rfl⟩, (fun q hq => fr__1 q (by omega))⟩
    · skip
      refine g_iconst k dX10_ahead_21 ?_
      rw [← hQQ]
      refine g_ireti k rfl dX10_ahead_22 ?_
      exact ⟨⟨fun q => absurd q.2 (q15.f (by omega)), fun _ => rfl⟩, ⟨_, ⟨hm_, ((fr_ (m + 1) (by omega)).trans cq1), ⟨N, hn_, hR⟩, (by rw [fr_ (m + 3) (by omega)]; exact cq3), (by rw [fr_ (m + 4) (by omega)]; exact cq4), (by rw [fr_ (m + 5) (by omega)]; exact cq5), (by rw [fr_ (m + 6) (by omega)]; exact cq6), (by rw [fr_ (m + 7) (by omega)]; exact cq7), (by rw [fr_ (m + 8) (by omega)]; exact cq8), (by rw [fr_ (m + 9) (by omega)]; exact cq9), (by rw [fr_ (m + 10) (by omega)]; exact cq10), ⟨_, hu_⟩, (by rw [fr_ (m + 12) (by omega)]; exact cq12), (by rw [fr_ (m + 13) (by omega)]; exact cq13), (by rw [fr_ (m + 14) (by omega)]; exact cq14), ⟨_, hg_⟩, (by rw [fr_ (m + 16) (by omega)]; exact cq16), (by rw [fr_ (m + 17) (by omega)]; exact cq17)⟩, hsc, rfl⟩, (fun q hq => fr_ q (by omega))⟩

