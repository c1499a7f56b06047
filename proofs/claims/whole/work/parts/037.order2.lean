/-! rooms and shape -/
def frF (B : Nat → Int) (L : Int) (Q : Nat → Nat) (rm : Nat → Nat) (i r : Nat) : Prop := ∀ j, j < i → rm j = r → pre B L (Q j) (Q i)
noncomputable def rmQ (B : Nat → Int) (L : Int) (Q : Nat → Nat) : Nat → List Nat
  | 0 => []
  | i + 1 => rmQ B L Q i ++ [(sr (frF B L Q (fun j => (rmQ B L Q i).getD j 0) i) (i + 1)).toNat]
noncomputable def rmA (B : Nat → Int) (L : Int) (Q : Nat → Nat) (j : Nat) : Nat := (rmQ B L Q (j + 1)).getD j 0
noncomputable def rmN (B : Nat → Int) (L : Int) (Q : Nat → Nat) : Nat → Nat
  | 0 => 0
  | i + 1 => if rmN B L Q i < rmA B L Q i + 1 then rmA B L Q i + 1 else rmN B L Q i
theorem rmQ_len (B : Nat → Int) (L : Int) (Q : Nat → Nat) : ∀ i, (rmQ B L Q i).length = i
  | 0 => rfl
  | i + 1 => by unfold rmQ; rw [List.length_append, rmQ_len B L Q i]; rfl
theorem rmQ_at (B : Nat → Int) (L : Int) (Q : Nat → Nat) : ∀ i j, j < i → (rmQ B L Q i).getD j 0 = rmA B L Q j
  | 0, j, h => absurd h (Nat.not_lt_zero j)
  | i + 1, j, h => by
    have hl := rmQ_len B L Q i
    rcases (show j = i ∨ j < i by omega) with rfl | q
    · rfl
    · rw [← rmQ_at B L Q i j q, rmQ, List.getD_eq_getElem?_getD, List.getElem?_append_left (by omega), List.getD_eq_getElem?_getD]
theorem rmA_eq (B : Nat → Int) (L : Int) (Q : Nat → Nat) (i : Nat) : rmA B L Q i = (sr (frF B L Q (rmA B L Q) i) (i + 1)).toNat := by
  have hl := rmQ_len B L Q i
  have e : frF B L Q (fun j => (rmQ B L Q i).getD j 0) i = frF B L Q (rmA B L Q) i := by
    funext r
    unfold frF
    exact propext ⟨fun h j hj hr => h j hj ((rmQ_at B L Q i j hj).trans hr), fun h j hj hr => h j hj ((rmQ_at B L Q i j hj).symm.trans hr)⟩
  rw [← e]
  unfold rmA
  rw [rmQ, List.getD_eq_getElem?_getD, List.getElem?_append_right (by omega), hl, Nat.sub_self]
  rfl
theorem rm_b (B : Nat → Int) (L : Int) (Q : Nat → Nat) : ∀ i, rmN B L Q i ≤ i ∧ ∀ j, j < i → rmA B L Q j < rmN B L Q i
  | 0 => ⟨Nat.le_refl 0, fun j hj => absurd hj (Nat.not_lt_zero j)⟩
  | i + 1 => by
    obtain ⟨h1, h2⟩ := rm_b B L Q i
    have hf : frF B L Q (rmA B L Q) i (rmN B L Q i) := fun j hj e => by have := h2 j hj; omega
    have h3 : rmA B L Q i ≤ i := by
      rw [rmA_eq]
      rcases sr_is (P := frF B L Q (rmA B L Q) i) (n := i + 1) with ⟨e, hn⟩ | ⟨k, e, hk, -⟩
      · exact absurd hf (hn _ (by omega))
      · omega
    rw [rmN]
    split
    · refine ⟨by omega, fun j hj => ?_⟩
      rcases (show j < i ∨ j = i by omega) with q | rfl
      · have := h2 j q; omega
      · omega
    · refine ⟨by omega, fun j hj => ?_⟩
      rcases (show j < i ∨ j = i by omega) with q | rfl
      · exact h2 j q
      · omega
theorem rmA_hit {B : Nat → Int} {L : Int} {Q : Nat → Nat} {i r : Nat} (hr : r ≤ i) (h1 : frF B L Q (rmA B L Q) i r) (h2 : ∀ s, s < r → ¬ frF B L Q (rmA B L Q) i s) : rmA B L Q i = r := by
  rw [rmA_eq, sr_hit (by omega) h1 h2, Int.toNat_natCast]
theorem Srt.inj {B : Nat → Int} {Q : Nat → Nat} {n i j : Nat} (h : Srt B Q n) (hi : i < n) (hj : j < n) (e : Q i = Q j) : i = j := by
  rcases Nat.lt_trichotomy i j with q | q | q
  · have := h.2 i j q hj; rw [e] at this; unfold lx at this; omega
  · exact q
  · have := h.2 j i q hi; rw [e] at this; unfold lx at this; omega
set_option maxHeartbeats 600000 in
set_option maxRecDepth 100000 in
theorem c_X1_isFree {G : Gx} {h : Hp} {nx a : Nat} {L0 g0 i0 : Int} {RO PR ST QU : Nat → Int} (hA : OA G h a L0 g0 i0 RO PR ST QU) {it : Nat} (hi : i0 = it) {B : Nat → Int} (hO : OK8 B it) (hB : ∀ v, v < it → ST v = B v) (hL : 1 ≤ L0 ∧ L0 ≤ 60) {Q : Nat → Nat} (hsr : Srt B Q it) (hQ : ∀ j, j < it → QU j = Q j) {i1 r1 : Nat} (hi1 : i1 < it) (hr1 : r1 < 16) {rm : Nat → Nat} (hrm : ∀ j, j < i1 → RO (Q j) = rm j ∧ rm j < 16) : Con G yX1_isFree cX1_isFree 4 (some .boolean) 2 0 0 [.ref a, vi (r1 : Int), vi (i1 : Int)] h nx (PI fun z h' => h' = h ∧ bz (frF B L0 Q rm i1 r1) z) := by
  have hA0 := hA
  obtain ⟨ha, ho, hp, ht, hq⟩ := hA
  subst hi
  have h8 := hO.1
  refine Con.of v_X1_isFree.2.2.2.2.2.1 (Nat.le_of_ble_eq_true rfl) (lv := [(0, .ref a), (1, vi (r1 : Int)), (2, vi (i1 : Int))]) rfl (fun X k => ?_)
  generalize hQQ : QM G X nx 0 0 _ = QQ
  refine g_iconst k dX1_isFree_0 ?_
  refine g_istore_n k (lv2 := [(0, .ref a), (1, vi (r1 : Int)), (2, vi (i1 : Int)), (3, vi 0)]) (by decide) rfl rfl dX1_isFree_1 ?_
  have K2 : ∀ (nz : Nat) (v : Nat) (hv : v ≤ i1) (hn : ∀ j, j < v → rm j = r1 → pre B L0 (Q j) (Q i1)) (hmz : i1 - v < nz), Go G X 4 QQ 0 0 nx 2 [(0, .ref a), (1, vi (r1 : Int)), (2, vi (i1 : Int)), (3, vi (v : Int))] [] h := by
    intro nz
    induction nz with
    | zero => intro v hv hn hmz; exact absurd hmz (Nat.not_lt_zero _)
    | succ nz ih2 =>
      intro v hv hn hmz
      refine g_iload_n k rfl dX1_isFree_2 ?_
      refine g_iload_n k rfl dX1_isFree_3 ?_
      refine g_icmp_ge k (tgt := 49) (by omega) (by omega) dX1_isFree_4 (by decide) (fun c4 => ?_) (fun c4 => ?_)
      · skip
        refine g_iconst k dX1_isFree_49 ?_
        rw [← hQQ]
        refine g_zreti k (by omega) rfl dX1_isFree_50 ?_
        exact ⟨rfl, bz.y (fun j hj => hn j (by omega))⟩
      · skip
        have q1 := hsr.1 v (by omega)
        have q2 := hsr.1 i1 hi1
        have b1 := hrm v (by omega)
        refine g_aload_n k rfl dX1_isFree_7 ?_
        refine g_get k 1 2 (C := RX1) (T := TX1) (N := 8) fl_X1_9 rfl wi_X1 (by decide) rfl ha rfl dX1_isFree_8 ?_
        refine g_aload_n k rfl dX1_isFree_11 ?_
        refine g_get k 1 6 (C := RX1) (T := TX1) (N := 8) fl_X1_21 rfl wi_X1 (by decide) rfl ha rfl dX1_isFree_12 ?_
        refine g_iload_n k rfl dX1_isFree_15 ?_
        refine g_iald k v hq (by omega) (by omega) (by decide) dX1_isFree_16 ?_
        rw [show QU v = (Q v : Int) from (hQ _ (by omega))]
        refine g_iald k (Q v) ho (by omega) (by omega) (by decide) dX1_isFree_17 ?_
        rw [show RO (Q v) = (rm v : Int) from (hrm v (by omega)).1]
        refine g_iload_n k rfl dX1_isFree_18 ?_
        refine g_icmp_ne k (tgt := 43) (by omega) (by omega) dX1_isFree_19 (by decide) (fun c19 => ?_) (fun c19 => ?_)
        · skip
          refine g_iinc k (lv2 := [(0, .ref a), (1, vi (r1 : Int)), (2, vi (i1 : Int)), (3, vi ((v : Int) + 1))]) rfl (by decide) rfl rfl dX1_isFree_43 ?_
          refine g_goto k (tgt := 2) dX1_isFree_46 (by decide) ?_
          exact ih2 (v + 1) (by omega) (lt_s2 hn (fun q => by omega)) (by omega)
        · skip
          refine g_aload_n k rfl dX1_isFree_22 ?_
          refine g_aload_n k rfl dX1_isFree_23 ?_
          refine g_get k 1 6 (C := RX1) (T := TX1) (N := 8) fl_X1_21 rfl wi_X1 (by decide) rfl ha rfl dX1_isFree_24 ?_
          refine g_iload_n k rfl dX1_isFree_27 ?_
          refine g_iald k v hq (by omega) (by omega) (by decide) dX1_isFree_28 ?_
          rw [show QU v = (Q v : Int) from (hQ _ (by omega))]
          refine g_aload_n k rfl dX1_isFree_29 ?_
          refine g_get k 1 6 (C := RX1) (T := TX1) (N := 8) fl_X1_21 rfl wi_X1 (by decide) rfl ha rfl dX1_isFree_30 ?_
          refine g_iload_n k rfl dX1_isFree_33 ?_
          refine g_iald k i1 hq (by omega) (by omega) (by decide) dX1_isFree_34 ?_
          rw [show QU i1 = (Q i1 : Int) from (hQ _ (by omega))]
          refine g_cVi k 1 (As := [vi (Q v : Int), vi (Q i1 : Int)]) v_X1_precedes rfl rfl ha ml_X1_58 (c_X1_precedes ⟨ha, ho, hp, ht, hq⟩ rfl hO hB hL (x := Q v) (y := Q i1) (by omega) (by omega)) (by omega) (by omega) rfl (Nat.le_of_ble_eq_true rfl) rfl dX1_isFree_35 (fun r35 h35 p35 => ?_)
          obtain ⟨eh35, p35⟩ := p35
          have eh35 := eh35.symm; subst eh35
          have q35 := p35
          have q35r := q35.r
          refine g_if_ne k (tgt := 43) (by omega) dX1_isFree_38 (by decide) (fun c38 => ?_) (fun c38 => ?_)
          · skip
            refine g_iinc k (lv2 := [(0, .ref a), (1, vi (r1 : Int)), (2, vi (i1 : Int)), (3, vi ((v : Int) + 1))]) rfl (by decide) rfl rfl dX1_isFree_43 ?_
            refine g_goto k (tgt := 2) dX1_isFree_46 (by decide) ?_
            exact ih2 (v + 1) (by omega) (lt_s2 hn (fun _ => q35.t (by omega))) (by omega)
          · skip
            refine g_iconst k dX1_isFree_41 ?_
            rw [← hQQ]
            refine g_zreti k (by omega) rfl dX1_isFree_42 ?_
            exact ⟨rfl, bz.n (fun q => q35.f (by omega) (q v (by omega) (by omega)))⟩
  exact K2 _ 0 (Nat.zero_le _) (fun j hj => absurd hj (Nat.not_lt_zero j)) (Nat.lt_succ_self _)

set_option maxHeartbeats 600000 in
set_option maxRecDepth 100000 in
theorem c_X1_fillRooms {G : Gx} {h : Hp} {nx a : Nat} {L0 g0 i0 : Int} {RO PR ST QU : Nat → Int} (hA : OA G h a L0 g0 i0 RO PR ST QU) {it : Nat} (hi : i0 = it) {B : Nat → Int} (hO : OK8 B it) (hB : ∀ v, v < it → ST v = B v) (hL : 1 ≤ L0 ∧ L0 ≤ 60) : Con G yX1_fillRooms cX1_fillRooms 3 none 3 0 0 [.ref a] h nx (PV fun h' => (∃ (Q : Nat → Nat) (RO2 QU2 : Nat → Int), Srt B Q it ∧ OA G h' a L0 (rmN B L0 Q it) it RO2 PR ST QU2 ∧ ∀ j, j < it → RO2 (Q j) = rmA B L0 Q j) ∧ ∀ q : Nat, (q < a ∨ a + 4 < q) → h' q = h q) := by
  have hA0 := hA
  obtain ⟨ha, ho, hp, ht, hq⟩ := hA
  subst hi
  have h8 := hO.1
  refine Con.of v_X1_fillRooms.2.2.2.2.2.1 (Nat.le_of_ble_eq_true rfl) (lv := [(0, .ref a)]) rfl (fun X k => ?_)
  generalize hQQ : QM G X nx 0 0 _ = QQ
  have fr0 : ∀ q : Nat, (q < a ∨ a + 4 < q) → h q = h q := fun _ _ => rfl
  refine g_aload_n k rfl dX1_fillRooms_0 ?_
  refine g_iconst k dX1_fillRooms_1 ?_
  refine g_put k 1 1 (C := RX1) (T := TX1) (N := 8) fl_X1_62 rfl wi_X1 tyX1 tyX1_ok nmX1 (by decide) rfl rfl rfl rfl ha (Nat.le_of_ble_eq_true rfl) (fs2 := [vi L0, vi 0, .ref (a + 1), .ref (a + 2), vi (it : Int), .ref (a + 3), .ref (a + 4), .ref (a + 5)]) rfl rfl dX1_fillRooms_2 (fun h2 eh2 => ?_)
  have ha_ : h2 a = some (ob 1 [vi L0, vi 0, .ref (a + 1), .ref (a + 2), vi (it : Int), .ref (a + 3), .ref (a + 4), .ref (a + 5)]) := (congrFun eh2 _).trans hup_s
  have ho_ : h2 (a + 1) = some (ai G 8 RO) := (congrFun eh2 _).trans ((hup_n (by omega)).trans ho)
  have hp_ : h2 (a + 2) = some (ai G 8 PR) := (congrFun eh2 _).trans ((hup_n (by omega)).trans hp)
  have ht_ : h2 (a + 3) = some (ai G 8 ST) := (congrFun eh2 _).trans ((hup_n (by omega)).trans ht)
  have hq_ : h2 (a + 4) = some (ai G 8 QU) := (congrFun eh2 _).trans ((hup_n (by omega)).trans hq)
  have fr_ : ∀ q : Nat, (q < a ∨ a + 4 < q) → h2 q = h q := fun q hq => (congrFun eh2 q).trans ((hup_n (by omega)).trans (fr0 q hq))
  refine g_aload_n k rfl dX1_fillRooms_5 ?_
  refine g_cVv k 1 (As := []) v_X1_fillQueue rfl rfl ha_ ml_X1_65 (c_X1_fillQueue ⟨ha_, ho_, hp_, ht_, hq_⟩ rfl hO hB hL) (by omega) (by omega) rfl (Nat.le_of_ble_eq_true rfl) rfl dX1_fillRooms_6 (fun h6 p6 => ?_)
  obtain ⟨⟨Q, QU2, nq, hsr, hQ⟩, nfr⟩ := p6
  have ha__1 : h6 a = some (ob 1 [vi L0, vi 0, .ref (a + 1), .ref (a + 2), vi (it : Int), .ref (a + 3), .ref (a + 4), .ref (a + 5)]) := (nfr _ (by omega)).trans ha_
  have ho__1 : h6 (a + 1) = some (ai G 8 RO) := (nfr _ (by omega)).trans ho_
  have hp__1 : h6 (a + 2) = some (ai G 8 PR) := (nfr _ (by omega)).trans hp_
  have ht__1 : h6 (a + 3) = some (ai G 8 ST) := (nfr _ (by omega)).trans ht_
  have hq__1 : h6 (a + 4) = some (ai G 8 QU2) := nq
  have fr__1 : ∀ q : Nat, (q < a ∨ a + 4 < q) → h6 q = h q := fun q hq => (nfr q (by omega)).trans (fr_ q hq)
  refine g_iconst k dX1_fillRooms_9 ?_
  refine g_istore_n k (lv2 := [(0, .ref a), (1, vi 0)]) (by decide) rfl rfl dX1_fillRooms_10 ?_
  have K11 : ∀ (nz : Nat) (i : Nat) (RO2 : Nat → Int) (h11 : Hp) (ha__2 : h11 a = some (ob 1 [vi L0, vi (rmN B L0 Q i : Int), .ref (a + 1), .ref (a + 2), vi (it : Int), .ref (a + 3), .ref (a + 4), .ref (a + 5)])) (ho__2 : h11 (a + 1) = some (ai G 8 RO2)) (hp__2 : h11 (a + 2) = some (ai G 8 PR)) (ht__2 : h11 (a + 3) = some (ai G 8 ST)) (hq__2 : h11 (a + 4) = some (ai G 8 QU2)) (fr__2 : ∀ q : Nat, (q < a ∨ a + 4 < q) → h11 q = h q) (hi2 : i ≤ it) (hro : ∀ j, j < i → RO2 (Q j) = rmA B L0 Q j) (hmz : it - i < nz), Go G X 3 QQ 0 0 nx 11 [(0, .ref a), (1, vi (i : Int))] [] h11 := by
    intro nz
    induction nz with
    | zero => intro i RO2 h11 ha__2 ho__2 hp__2 ht__2 hq__2 fr__2 hi2 hro hmz; exact absurd hmz (Nat.not_lt_zero _)
    | succ nz ih11 =>
      intro i RO2 h11 ha__2 ho__2 hp__2 ht__2 hq__2 fr__2 hi2 hro hmz
      refine g_iload_n k rfl dX1_fillRooms_11 ?_
      refine g_aload_n k rfl dX1_fillRooms_12 ?_
      refine g_get k 1 4 (C := RX1) (T := TX1) (N := 8) fl_X1_37 rfl wi_X1 (by decide) rfl ha__2 rfl dX1_fillRooms_13 ?_
      refine g_icmp_ge k (tgt := 76) (by omega) (by omega) dX1_fillRooms_16 (by decide) (fun c16 => ?_) (fun c16 => ?_)
      · skip
        rw [← hQQ]
        refine g_retv k rfl dX1_fillRooms_76 ?_
        have e : i = it := by omega
        subst e
        exact ⟨⟨Q, RO2, QU2, hsr, ⟨ha__2, ho__2, hp__2, ht__2, hq__2⟩, hro⟩, fr__2⟩
      · skip
        have hb := rm_b B L0 Q i
        have q1 := hsr.1 i (by omega)
        refine g_iconst k dX1_fillRooms_19 ?_
        refine g_istore_n k (lv2 := [(0, .ref a), (1, vi (i : Int)), (2, vi 0)]) (by decide) rfl rfl dX1_fillRooms_20 ?_
        have K21 : ∀ (nz_1 : Nat) (r : Nat) (hr : r ≤ rmN B L0 Q i) (hrn : ∀ s, s < r → ¬ frF B L0 Q (rmA B L0 Q) i s) (hmz_1 : rmN B L0 Q i - r < nz_1), Go G X 3 QQ 0 0 nx 21 [(0, .ref a), (1, vi (i : Int)), (2, vi (r : Int))] [] h11 := by
          intro nz_1
          induction nz_1 with
          | zero => intro r hr hrn hmz_1; exact absurd hmz_1 (Nat.not_lt_zero _)
          | succ nz_1 ih21 =>
            intro r hr hrn hmz_1
            refine g_iload_n k rfl dX1_fillRooms_21 ?_
            refine g_aload_n k rfl dX1_fillRooms_22 ?_
            refine g_get k 1 1 (C := RX1) (T := TX1) (N := 8) fl_X1_62 rfl wi_X1 (by decide) rfl ha__2 rfl dX1_fillRooms_23 ?_
            refine g_icmp_ge k (tgt := 44) (by omega) (by omega) dX1_fillRooms_26 (by decide) (fun c26 => ?_) (fun c26 => ?_)
            · skip
              have er : rmA B L0 Q i = r := rmA_hit (by omega) (fun j hj e => by have := hb.2 j hj; omega) hrn
              refine g_aload_n k rfl dX1_fillRooms_44 ?_
              refine g_get k 1 2 (C := RX1) (T := TX1) (N := 8) fl_X1_9 rfl wi_X1 (by decide) rfl ha__2 rfl dX1_fillRooms_45 ?_
              refine g_aload_n k rfl dX1_fillRooms_48 ?_
              refine g_get k 1 6 (C := RX1) (T := TX1) (N := 8) fl_X1_21 rfl wi_X1 (by decide) rfl ha__2 rfl dX1_fillRooms_49 ?_
              refine g_iload_n k rfl dX1_fillRooms_52 ?_
              refine g_iald k i hq__2 (by omega) (by omega) (by decide) dX1_fillRooms_53 ?_
              rw [show QU2 i = (Q i : Int) from (hQ _ (by omega))]
              refine g_iload_n k rfl dX1_fillRooms_54 ?_
              refine g_iast k (Q i) ho__2 (by omega) (by omega) (by decide) dX1_fillRooms_55 (fun h55 eh55 => ?_)
              have ha__3 : h55 a = some (ob 1 [vi L0, vi (rmN B L0 Q i : Int), .ref (a + 1), .ref (a + 2), vi (it : Int), .ref (a + 3), .ref (a + 4), .ref (a + 5)]) := (congrFun eh55 _).trans ((hup_n (by omega)).trans ha__2)
              have ho__3 : h55 (a + 1) = some (ai G 8 (fu RO2 (Q i) (r : Int))) := (congrFun eh55 _).trans hup_s
              have hp__3 : h55 (a + 2) = some (ai G 8 PR) := (congrFun eh55 _).trans ((hup_n (by omega)).trans hp__2)
              have ht__3 : h55 (a + 3) = some (ai G 8 ST) := (congrFun eh55 _).trans ((hup_n (by omega)).trans ht__2)
              have hq__3 : h55 (a + 4) = some (ai G 8 QU2) := (congrFun eh55 _).trans ((hup_n (by omega)).trans hq__2)
              have fr__3 : ∀ q : Nat, (q < a ∨ a + 4 < q) → h55 q = h q := fun q hq => (congrFun eh55 q).trans ((hup_n (by omega)).trans (fr__2 q hq))
              refine g_aload_n k rfl dX1_fillRooms_56 ?_
              refine g_aload_n k rfl dX1_fillRooms_57 ?_
              refine g_get k 1 1 (C := RX1) (T := TX1) (N := 8) fl_X1_62 rfl wi_X1 (by decide) rfl ha__3 rfl dX1_fillRooms_58 ?_
              refine g_iload_n k rfl dX1_fillRooms_61 ?_
              refine g_iconst k dX1_fillRooms_62 ?_
              refine g_iadd k dX1_fillRooms_63 ?_
              refine g_max k (by omega) (by omega) ml_X1_71 st_max cd_max (by omega) (by omega) (Nat.le_of_ble_eq_true rfl) dX1_fillRooms_64 ?_
              refine g_put k 1 1 (C := RX1) (T := TX1) (N := 8) fl_X1_62 rfl wi_X1 tyX1 tyX1_ok nmX1 (by decide) rfl rfl rfl rfl ha__3 (Nat.le_of_ble_eq_true rfl) (fs2 := [vi L0, vi (if (rmN B L0 Q i : Int) < ((r : Int) + 1) then ((r : Int) + 1) else (rmN B L0 Q i : Int)), .ref (a + 1), .ref (a + 2), vi (it : Int), .ref (a + 3), .ref (a + 4), .ref (a + 5)]) rfl rfl dX1_fillRooms_67 (fun h67 eh67 => ?_)
              have ha__4 : h67 a = some (ob 1 [vi L0, vi (if (rmN B L0 Q i : Int) < ((r : Int) + 1) then ((r : Int) + 1) else (rmN B L0 Q i : Int)), .ref (a + 1), .ref (a + 2), vi (it : Int), .ref (a + 3), .ref (a + 4), .ref (a + 5)]) := (congrFun eh67 _).trans hup_s
              have ho__4 : h67 (a + 1) = some (ai G 8 (fu RO2 (Q i) (r : Int))) := (congrFun eh67 _).trans ((hup_n (by omega)).trans ho__3)
              have hp__4 : h67 (a + 2) = some (ai G 8 PR) := (congrFun eh67 _).trans ((hup_n (by omega)).trans hp__3)
              have ht__4 : h67 (a + 3) = some (ai G 8 ST) := (congrFun eh67 _).trans ((hup_n (by omega)).trans ht__3)
              have hq__4 : h67 (a + 4) = some (ai G 8 QU2) := (congrFun eh67 _).trans ((hup_n (by omega)).trans hq__3)
              have fr__4 : ∀ q : Nat, (q < a ∨ a + 4 < q) → h67 q = h q := fun q hq => (congrFun eh67 q).trans ((hup_n (by omega)).trans (fr__3 q hq))
              refine g_iinc k (lv2 := [(0, .ref a), (1, vi ((i : Int) + 1)), (2, vi (r : Int))]) rfl (by decide) rfl rfl dX1_fillRooms_70 ?_
              refine g_goto k (tgt := 11) dX1_fillRooms_73 (by decide) ?_
              refine g_less (lv2 := [(0, .ref a), (1, vi ((i : Int) + 1))]) ⟨rfl, rfl, trivial⟩ ?_
              rw [show (if (rmN B L0 Q i : Int) < (r : Int) + 1 then (r : Int) + 1 else (rmN B L0 Q i : Int)) = (rmN B L0 Q (i + 1) : Nat) by rw [rmN, er]; by_cases c : rmN B L0 Q i < r + 1; (rw [if_pos c, if_pos (by omega)]; rfl); rw [if_neg c, if_neg (by omega)]] at ha__4
              exact ih11 (i + 1) (fu RO2 (Q i) (r : Int)) h67 ha__4 ho__4 hp__4 ht__4 hq__4 fr__4 (by omega) (lt_s2 (fun j hj => (fu_n (fun e => by have := hsr.inj (by omega) (by omega) e; omega)).trans (hro j hj)) (by rw [fu_s, er])) (by omega)
            · skip
              refine g_aload_n k rfl dX1_fillRooms_29 ?_
              refine g_iload_n k rfl dX1_fillRooms_30 ?_
              refine g_iload_n k rfl dX1_fillRooms_31 ?_
              refine g_cVi k 1 (As := [vi (r : Int), vi (i : Int)]) v_X1_isFree rfl rfl ha__2 ml_X1_68 (c_X1_isFree ⟨ha__2, ho__2, hp__2, ht__2, hq__2⟩ rfl hO hB hL hsr hQ (i1 := i) (r1 := r) (by omega) (by omega) (rm := rmA B L0 Q) (fun j hj => ⟨hro j hj, by have := hb.2 j hj; omega⟩)) (by omega) (by omega) rfl (Nat.le_of_ble_eq_true rfl) rfl dX1_fillRooms_32 (fun r32 h32 p32 => ?_)
              obtain ⟨eh32, p32⟩ := p32
              have eh32 := eh32.symm; subst eh32
              have q32 := p32
              have q32r := q32.r
              refine g_if_ne k (tgt := 44) (by omega) dX1_fillRooms_35 (by decide) (fun c35 => ?_) (fun c35 => ?_)
              · skip
                have er : rmA B L0 Q i = r := rmA_hit (by omega) (q32.t (by omega)) hrn
                refine g_aload_n k rfl dX1_fillRooms_44 ?_
                refine g_get k 1 2 (C := RX1) (T := TX1) (N := 8) fl_X1_9 rfl wi_X1 (by decide) rfl ha__2 rfl dX1_fillRooms_45 ?_
                refine g_aload_n k rfl dX1_fillRooms_48 ?_
                refine g_get k 1 6 (C := RX1) (T := TX1) (N := 8) fl_X1_21 rfl wi_X1 (by decide) rfl ha__2 rfl dX1_fillRooms_49 ?_
                refine g_iload_n k rfl dX1_fillRooms_52 ?_
                refine g_iald k i hq__2 (by omega) (by omega) (by decide) dX1_fillRooms_53 ?_
                rw [show QU2 i = (Q i : Int) from (hQ _ (by omega))]
                refine g_iload_n k rfl dX1_fillRooms_54 ?_
                refine g_iast k (Q i) ho__2 (by omega) (by omega) (by decide) dX1_fillRooms_55 (fun h55_1 eh55_1 => ?_)
                have ha__5 : h55_1 a = some (ob 1 [vi L0, vi (rmN B L0 Q i : Int), .ref (a + 1), .ref (a + 2), vi (it : Int), .ref (a + 3), .ref (a + 4), .ref (a + 5)]) := (congrFun eh55_1 _).trans ((hup_n (by omega)).trans ha__2)
                have ho__5 : h55_1 (a + 1) = some (ai G 8 (fu RO2 (Q i) (r : Int))) := (congrFun eh55_1 _).trans hup_s
                have hp__5 : h55_1 (a + 2) = some (ai G 8 PR) := (congrFun eh55_1 _).trans ((hup_n (by omega)).trans hp__2)
                have ht__5 : h55_1 (a + 3) = some (ai G 8 ST) := (congrFun eh55_1 _).trans ((hup_n (by omega)).trans ht__2)
                have hq__5 : h55_1 (a + 4) = some (ai G 8 QU2) := (congrFun eh55_1 _).trans ((hup_n (by omega)).trans hq__2)
                have fr__5 : ∀ q : Nat, (q < a ∨ a + 4 < q) → h55_1 q = h q := fun q hq => (congrFun eh55_1 q).trans ((hup_n (by omega)).trans (fr__2 q hq))
                refine g_aload_n k rfl dX1_fillRooms_56 ?_
                refine g_aload_n k rfl dX1_fillRooms_57 ?_
                refine g_get k 1 1 (C := RX1) (T := TX1) (N := 8) fl_X1_62 rfl wi_X1 (by decide) rfl ha__5 rfl dX1_fillRooms_58 ?_
                refine g_iload_n k rfl dX1_fillRooms_61 ?_
                refine g_iconst k dX1_fillRooms_62 ?_
                refine g_iadd k dX1_fillRooms_63 ?_
                refine g_max k (by omega) (by omega) ml_X1_71 st_max cd_max (by omega) (by omega) (Nat.le_of_ble_eq_true rfl) dX1_fillRooms_64 ?_
                refine g_put k 1 1 (C := RX1) (T := TX1) (N := 8) fl_X1_62 rfl wi_X1 tyX1 tyX1_ok nmX1 (by decide) rfl rfl rfl rfl ha__5 (Nat.le_of_ble_eq_true rfl) (fs2 := [vi L0, vi (if (rmN B L0 Q i : Int) < ((r : Int) + 1) then ((r : Int) + 1) else (rmN B L0 Q i : Int)), .ref (a + 1), .ref (a + 2), vi (it : Int), .ref (a + 3), .ref (a + 4), .ref (a + 5)]) rfl rfl dX1_fillRooms_67 (fun h67_1 eh67_1 => ?_)
                have ha__6 : h67_1 a = some (ob 1 [vi L0, vi (if (rmN B L0 Q i : Int) < ((r : Int) + 1) then ((r : Int) + 1) else (rmN B L0 Q i : Int)), .ref (a + 1), .ref (a + 2), vi (it : Int), .ref (a + 3), .ref (a + 4), .ref (a + 5)]) := (congrFun eh67_1 _).trans hup_s
                have ho__6 : h67_1 (a + 1) = some (ai G 8 (fu RO2 (Q i) (r : Int))) := (congrFun eh67_1 _).trans ((hup_n (by omega)).trans ho__5)
                have hp__6 : h67_1 (a + 2) = some (ai G 8 PR) := (congrFun eh67_1 _).trans ((hup_n (by omega)).trans hp__5)
                have ht__6 : h67_1 (a + 3) = some (ai G 8 ST) := (congrFun eh67_1 _).trans ((hup_n (by omega)).trans ht__5)
                have hq__6 : h67_1 (a + 4) = some (ai G 8 QU2) := (congrFun eh67_1 _).trans ((hup_n (by omega)).trans hq__5)
                have fr__6 : ∀ q : Nat, (q < a ∨ a + 4 < q) → h67_1 q = h q := fun q hq => (congrFun eh67_1 q).trans ((hup_n (by omega)).trans (fr__5 q hq))
                refine g_iinc k (lv2 := [(0, .ref a), (1, vi ((i : Int) + 1)), (2, vi (r : Int))]) rfl (by decide) rfl rfl dX1_fillRooms_70 ?_
                refine g_goto k (tgt := 11) dX1_fillRooms_73 (by decide) ?_
                refine g_less (lv2 := [(0, .ref a), (1, vi ((i : Int) + 1))]) ⟨rfl, rfl, trivial⟩ ?_
                rw [show (if (rmN B L0 Q i : Int) < (r : Int) + 1 then (r : Int) + 1 else (rmN B L0 Q i : Int)) = (rmN B L0 Q (i + 1) : Nat) by rw [rmN, er]; by_cases c : rmN B L0 Q i < r + 1; (rw [if_pos c, if_pos (by omega)]; rfl); rw [if_neg c, if_neg (by omega)]] at ha__6
                exact ih11 (i + 1) (fu RO2 (Q i) (r : Int)) h67_1 ha__6 ho__6 hp__6 ht__6 hq__6 fr__6 (by omega) (lt_s2 (fun j hj => (fu_n (fun e => by have := hsr.inj (by omega) (by omega) e; omega)).trans (hro j hj)) (by rw [fu_s, er])) (by omega)
              · skip
                refine g_iinc k (lv2 := [(0, .ref a), (1, vi (i : Int)), (2, vi ((r : Int) + 1))]) rfl (by decide) rfl rfl dX1_fillRooms_38 ?_
                refine g_goto k (tgt := 21) dX1_fillRooms_41 (by decide) ?_
                exact ih21 (r + 1) (by omega) (lt_s2 hrn (q32.f (by omega))) (by omega)
        exact K21 _ 0 (Nat.zero_le _) (fun j hj => absurd hj (Nat.not_lt_zero j)) (Nat.lt_succ_self _)
  exact K11 _ 0 RO h6 ha__1 ho__1 hp__1 ht__1 hq__1 fr__1 (Nat.zero_le _) (fun j hj => absurd hj (Nat.not_lt_zero j)) (Nat.lt_succ_self _)

/-- how many numbers below n have p -/
noncomputable def ct (p : Nat → Prop) : Nat → Nat
  | 0 => 0
  | n + 1 => haveI := Classical.propDecidable (p n); if p n then ct p n + 1 else ct p n
theorem ct_le (p : Nat → Prop) : ∀ n, ct p n ≤ n
  | 0 => Nat.le_refl 0
  | n + 1 => by have := ct_le p n; unfold ct; split <;> omega
theorem ct_ext {p q : Nat → Prop} : ∀ n, (∀ j, j < n → (p j ↔ q j)) → ct p n = ct q n
  | 0, _ => rfl
  | n + 1, h => by
    have ih := ct_ext n (fun j hj => h j (by omega))
    have hn := h n (by omega)
    unfold ct
    by_cases c : p n
    · rw [if_pos c, if_pos (hn.mp c), ih]
    · rw [if_neg c, if_neg (fun z => c (hn.mpr z)), ih]
theorem ct_ins {P : Nat → Nat} {p x t : Nat} : ∀ v, p ≤ v → ct (fun i => insF P p x i ≤ t) (v + 1) = ct (fun i => P i ≤ t) v + (if x ≤ t then 1 else 0)
  | 0, h => by
    have e : p = 0 := by omega
    subst e
    simp only [ct, insF]
    by_cases c : x ≤ t <;> simp [c]
  | v + 1, h => by
    rcases (show p = v + 1 ∨ p ≤ v by omega) with e | e
    · subst e
      rw [ct, ct_ext (q := fun i => P i ≤ t) (v + 1) (fun j hj => by unfold insF; rw [if_pos hj])]
      have e2 : insF P (v + 1) x (v + 1) = x := by unfold insF; rw [if_neg (by omega), if_pos rfl]
      rw [e2]
      by_cases c : x ≤ t
      · rw [if_pos c, if_pos c]
      · rw [if_neg c, if_neg c]; rfl
    · have ih := ct_ins (P := P) (p := p) (x := x) (t := t) v e
      rw [ct, ih]
      have e2 : insF P p x (v + 1) = P v := by unfold insF; rw [if_neg (by omega), if_neg (by omega)]; rfl
      rw [e2]
      show _ = ct (fun i => P i ≤ t) (v + 1) + _
      rw [show ct (fun i => P i ≤ t) (v + 1) = (haveI := Classical.propDecidable (P v ≤ t); if P v ≤ t then ct (fun i => P i ≤ t) v + 1 else ct (fun i => P i ≤ t) v) from rfl]
      by_cases c : P v ≤ t
      · rw [if_pos c, if_pos c]; omega
      · rw [if_neg c, if_neg c]
/-- how many are ahead of v -/
noncomputable def cah (B : Nat → Int) (L : Int) (it v : Nat) : Nat := ct (fun u => pre B L u v) it
def Std (P : Nat → Nat) (c : Nat → Nat) (n : Nat) : Prop := (∀ i j, i < j → j < n → P i ≤ P j) ∧ (∀ i, i < n → P i ≤ 8) ∧ ∀ t, ct (fun i => P i ≤ t) n = ct (fun i => c i ≤ t) n
theorem Std.ins {P c : Nat → Nat} {v p x : Nat} (h : Std P c v) (hp : p ≤ v) (h2 : 0 < p → P (p - 1) ≤ x) (h1 : ∀ j, p ≤ j → j < v → x < P j) (hx : x ≤ 8) (hc : c v = x) : Std (insF P p x) c (v + 1) := by
  obtain ⟨a1, a2, a3⟩ := h
  have low : ∀ i, i < p → P i ≤ x := fun i hi => by
    rcases (show i < p - 1 ∨ i = p - 1 by omega) with q | rfl
    · have := a1 i (p - 1) q (by omega)
      have := h2 (by omega)
      omega
    · exact h2 (by omega)
  refine ⟨fun i j hij hj => ?_, fun i hi => ?_, fun t => ?_⟩
  · unfold insF
    by_cases c1 : j < p
    · rw [if_pos (by omega), if_pos c1]; exact a1 i j hij (by omega)
    · by_cases c2 : j = p
      · rw [if_pos (by omega), if_neg c1, if_pos c2]; exact low i (by omega)
      · rw [if_neg c1, if_neg c2]
        by_cases c3 : i < p
        · rw [if_pos c3]; exact a1 i (j - 1) (by omega) (by omega)
        · rw [if_neg c3]
          by_cases c4 : i = p
          · rw [if_pos c4]; exact Nat.le_of_lt (h1 (j - 1) (by omega) (by omega))
          · rw [if_neg c4]; exact a1 (i - 1) (j - 1) (by omega) (by omega)
  · unfold insF
    split
    · exact a2 i (by omega)
    · split
      · exact hx
      · exact a2 (i - 1) (by omega)
  · rw [ct_ins v hp, a3 t, show ct (fun i => c i ≤ t) (v + 1) = (haveI := Classical.propDecidable (c v ≤ t); if c v ≤ t then ct (fun i => c i ≤ t) v + 1 else ct (fun i => c i ≤ t) v) from rfl, hc]
    by_cases q : x ≤ t
    · rw [if_pos q, if_pos q]
    · rw [if_neg q, if_neg q]; rfl
set_option maxHeartbeats 600000 in
set_option maxRecDepth 100000 in
theorem c_X1_fillProfile {G : Gx} {h : Hp} {nx a : Nat} {L0 g0 i0 : Int} {RO PR ST QU : Nat → Int} (hA : OA G h a L0 g0 i0 RO PR ST QU) {it : Nat} (hi : i0 = it) {B : Nat → Int} (hO : OK8 B it) (hB : ∀ v, v < it → ST v = B v) (hL : 1 ≤ L0 ∧ L0 ≤ 60) : Con G yX1_fillProfile cX1_fillProfile 4 none 2 0 0 [.ref a] h nx (PV fun h' => (∃ (P : Nat → Nat) (PR2 : Nat → Int), h' (a + 2) = some (ai G 8 PR2) ∧ Std P (cah B L0 it) it ∧ ∀ j, j < it → PR2 j = P j) ∧ ∀ q : Nat, (q < a + 2 ∨ a + 2 < q) → h' q = h q) := by
  have hA0 := hA
  obtain ⟨ha, ho, hp, ht, hq⟩ := hA
  subst hi
  have h8 := hO.1
  refine Con.of v_X1_fillProfile.2.2.2.2.2.1 (Nat.le_of_ble_eq_true rfl) (lv := [(0, .ref a)]) rfl (fun X k => ?_)
  generalize hQQ : QM G X nx 0 0 _ = QQ
  have fr0 : ∀ q : Nat, (q < a + 2 ∨ a + 2 < q) → h q = h q := fun _ _ => rfl
  refine g_iconst k dX1_fillProfile_0 ?_
  refine g_istore_n k (lv2 := [(0, .ref a), (1, vi 0)]) (by decide) rfl rfl dX1_fillProfile_1 ?_
  have K2 : ∀ (nz : Nat) (v : Nat) (P : Nat → Nat) (Z : Nat → Int) (h2 : Hp) (ha_ : h2 a = some (ob 1 [vi L0, vi g0, .ref (a + 1), .ref (a + 2), vi (it : Int), .ref (a + 3), .ref (a + 4), .ref (a + 5)])) (ho_ : h2 (a + 1) = some (ai G 8 RO)) (hp_ : h2 (a + 2) = some (ai G 8 Z)) (ht_ : h2 (a + 3) = some (ai G 8 ST)) (hq_ : h2 (a + 4) = some (ai G 8 QU)) (fr_ : ∀ q : Nat, (q < a + 2 ∨ a + 2 < q) → h2 q = h q) (hv : v ≤ it) (hsd : Std P (cah B L0 it) v) (hz : ∀ j, j < v → Z j = P j) (hmz : it - v < nz), Go G X 4 QQ 0 0 nx 2 [(0, .ref a), (1, vi (v : Int))] [] h2 := by
    intro nz
    induction nz with
    | zero => intro v P Z h2 ha_ ho_ hp_ ht_ hq_ fr_ hv hsd hz hmz; exact absurd hmz (Nat.not_lt_zero _)
    | succ nz ih2 =>
      intro v P Z h2 ha_ ho_ hp_ ht_ hq_ fr_ hv hsd hz hmz
      refine g_iload_n k rfl dX1_fillProfile_2 ?_
      refine g_aload_n k rfl dX1_fillProfile_3 ?_
      refine g_get k 1 4 (C := RX1) (T := TX1) (N := 8) fl_X1_37 rfl wi_X1 (by decide) rfl ha_ rfl dX1_fillProfile_4 ?_
      refine g_icmp_ge k (tgt := 96) (by omega) (by omega) dX1_fillProfile_7 (by decide) (fun c7 => ?_) (fun c7 => ?_)
      · skip
        rw [← hQQ]
        refine g_retv k rfl dX1_fillProfile_96 ?_
        have e : v = it := by omega
        subst e
        exact ⟨⟨P, Z, hp_, hsd, hz⟩, fr_⟩
      · skip
        refine g_iconst k dX1_fillProfile_10 ?_
        refine g_istore_n k (lv2 := [(0, .ref a), (1, vi (v : Int)), (2, vi 0)]) (by decide) rfl rfl dX1_fillProfile_11 ?_
        refine g_iconst k dX1_fillProfile_12 ?_
        refine g_istore_n k (lv2 := [(0, .ref a), (1, vi (v : Int)), (2, vi 0), (3, vi 0)]) (by decide) rfl rfl dX1_fillProfile_13 ?_
        have K14 : ∀ (nz_1 : Nat) (n : Nat) (hn : n ≤ it) (hmz_1 : it - n < nz_1), Go G X 4 QQ 0 0 nx 14 [(0, .ref a), (1, vi (v : Int)), (2, vi (ct (fun u => pre B L0 u v) n : Int)), (3, vi (n : Int))] [] h2 := by
          intro nz_1
          induction nz_1 with
          | zero => intro n hn hmz_1; exact absurd hmz_1 (Nat.not_lt_zero _)
          | succ nz_1 ih14 =>
            intro n hn hmz_1
            refine g_iload_n k rfl dX1_fillProfile_14 ?_
            refine g_aload_n k rfl dX1_fillProfile_15 ?_
            refine g_get k 1 4 (C := RX1) (T := TX1) (N := 8) fl_X1_37 rfl wi_X1 (by decide) rfl ha_ rfl dX1_fillProfile_16 ?_
            refine g_icmp_ge k (tgt := 45) (by omega) (by omega) dX1_fillProfile_19 (by decide) (fun c19 => ?_) (fun c19 => ?_)
            · skip
              have e : n = it := by omega
              have hc8 : cah B L0 it v ≤ 8 := Nat.le_trans (ct_le _ _) h8
              rw [show ct (fun u => pre B L0 u v) n = cah B L0 it v by rw [e]; rfl]
              refine g_iload_n k rfl dX1_fillProfile_45 ?_
              refine g_istore_n k (lv2 := [(0, .ref a), (1, vi (v : Int)), (2, vi (cah B L0 it v : Int)), (3, vi (v : Int))]) (by decide) rfl rfl dX1_fillProfile_46 ?_
              have K47 : ∀ (nz_2 : Nat) (p : Nat) (Y : Nat → Int) (h47 : Hp) (ha__1 : h47 a = some (ob 1 [vi L0, vi g0, .ref (a + 1), .ref (a + 2), vi (it : Int), .ref (a + 3), .ref (a + 4), .ref (a + 5)])) (ho__1 : h47 (a + 1) = some (ai G 8 RO)) (hp__1 : h47 (a + 2) = some (ai G 8 Y)) (ht__1 : h47 (a + 3) = some (ai G 8 ST)) (hq__1 : h47 (a + 4) = some (ai G 8 QU)) (fr__1 : ∀ q : Nat, (q < a + 2 ∨ a + 2 < q) → h47 q = h q) (hp1 : p ≤ v) (hlo : ∀ j, j < p → Y j = P j) (hhi : ∀ j, p < j → j ≤ v → Y j = P (j - 1)) (hgt : ∀ j, p ≤ j → j < v → cah B L0 it v < P j) (hmz_2 : p < nz_2), Go G X 4 QQ 0 0 nx 47 [(0, .ref a), (1, vi (v : Int)), (2, vi (cah B L0 it v : Int)), (3, vi (p : Int))] [] h47 := by
                intro nz_2
                induction nz_2 with
                | zero => intro p Y h47 ha__1 ho__1 hp__1 ht__1 hq__1 fr__1 hp1 hlo hhi hgt hmz_2; exact absurd hmz_2 (Nat.not_lt_zero _)
                | succ nz_2 ih47 =>
                  intro p Y h47 ha__1 ho__1 hp__1 ht__1 hq__1 fr__1 hp1 hlo hhi hgt hmz_2
                  refine g_iload_n k rfl dX1_fillProfile_47 ?_
                  refine g_if_le k (tgt := 83) (by omega) dX1_fillProfile_48 (by decide) (fun c48 => ?_) (fun c48 => ?_)
                  · skip
                    refine g_aload_n k rfl dX1_fillProfile_83 ?_
                    refine g_get k 1 3 (C := RX1) (T := TX1) (N := 8) fl_X1_15 rfl wi_X1 (by decide) rfl ha__1 rfl dX1_fillProfile_84 ?_
                    refine g_iload_n k rfl dX1_fillProfile_87 ?_
                    refine g_iload_n k rfl dX1_fillProfile_88 ?_
                    refine g_iast k p hp__1 (by omega) (by omega) (by decide) dX1_fillProfile_89 (fun h89 eh89 => ?_)
                    have ha__2 : h89 a = some (ob 1 [vi L0, vi g0, .ref (a + 1), .ref (a + 2), vi (it : Int), .ref (a + 3), .ref (a + 4), .ref (a + 5)]) := (congrFun eh89 _).trans ((hup_n (by omega)).trans ha__1)
                    have ho__2 : h89 (a + 1) = some (ai G 8 RO) := (congrFun eh89 _).trans ((hup_n (by omega)).trans ho__1)
                    have hp__2 : h89 (a + 2) = some (ai G 8 (fu Y p (cah B L0 it v : Int))) := (congrFun eh89 _).trans hup_s
                    have ht__2 : h89 (a + 3) = some (ai G 8 ST) := (congrFun eh89 _).trans ((hup_n (by omega)).trans ht__1)
                    have hq__2 : h89 (a + 4) = some (ai G 8 QU) := (congrFun eh89 _).trans ((hup_n (by omega)).trans hq__1)
                    have fr__2 : ∀ q : Nat, (q < a + 2 ∨ a + 2 < q) → h89 q = h q := fun q hq => (congrFun eh89 q).trans ((hup_n (by omega)).trans (fr__1 q hq))
                    refine g_iinc k (lv2 := [(0, .ref a), (1, vi ((v : Int) + 1)), (2, vi (cah B L0 it v : Int)), (3, vi (p : Int))]) rfl (by decide) rfl rfl dX1_fillProfile_90 ?_
                    refine g_goto k (tgt := 2) dX1_fillProfile_93 (by decide) ?_
                    refine g_less (lv2 := [(0, .ref a), (1, vi ((v : Int) + 1))]) ⟨rfl, rfl, trivial⟩ ?_
                    exact ih2 (v + 1) (insF P p (cah B L0 it v)) (fu Y p (cah B L0 it v : Int)) h89 ha__2 ho__2 hp__2 ht__2 hq__2 fr__2 (by omega) (hsd.ins (by omega) (fun q => by omega) hgt (by omega) rfl) (fun j hj => by unfold insF fu; by_cases c1 : j = p; (subst c1; rw [if_pos rfl, if_neg (by omega), if_pos rfl]); (rw [if_neg c1]; by_cases c2 : j < p; (rw [if_pos c2]; exact hlo j c2); (rw [if_neg c2, if_neg c1]; exact hhi j (by omega) (by omega)))) (by omega)
                  · skip
                    have hP8 := hsd.2.1 (p - 1) (by omega)
                    refine g_aload_n k rfl dX1_fillProfile_51 ?_
                    refine g_get k 1 3 (C := RX1) (T := TX1) (N := 8) fl_X1_15 rfl wi_X1 (by decide) rfl ha__1 rfl dX1_fillProfile_52 ?_
                    refine g_iload_n k rfl dX1_fillProfile_55 ?_
                    refine g_iconst k dX1_fillProfile_56 ?_
                    refine g_isub k dX1_fillProfile_57 ?_
                    refine g_iald k (p - 1) hp__1 (by omega) (by omega) (by decide) dX1_fillProfile_58 ?_
                    rw [show Y (p - 1) = (P (p - 1) : Int) from (hlo (p - 1) (by omega))]
                    refine g_iload_n k rfl dX1_fillProfile_59 ?_
                    refine g_icmp_le k (tgt := 83) (by omega) (by omega) dX1_fillProfile_60 (by decide) (fun c60 => ?_) (fun c60 => ?_)
                    · skip
                      refine g_aload_n k rfl dX1_fillProfile_83 ?_
                      refine g_get k 1 3 (C := RX1) (T := TX1) (N := 8) fl_X1_15 rfl wi_X1 (by decide) rfl ha__1 rfl dX1_fillProfile_84 ?_
                      refine g_iload_n k rfl dX1_fillProfile_87 ?_
                      refine g_iload_n k rfl dX1_fillProfile_88 ?_
                      refine g_iast k p hp__1 (by omega) (by omega) (by decide) dX1_fillProfile_89 (fun h89_1 eh89_1 => ?_)
                      have ha__3 : h89_1 a = some (ob 1 [vi L0, vi g0, .ref (a + 1), .ref (a + 2), vi (it : Int), .ref (a + 3), .ref (a + 4), .ref (a + 5)]) := (congrFun eh89_1 _).trans ((hup_n (by omega)).trans ha__1)
                      have ho__3 : h89_1 (a + 1) = some (ai G 8 RO) := (congrFun eh89_1 _).trans ((hup_n (by omega)).trans ho__1)
                      have hp__3 : h89_1 (a + 2) = some (ai G 8 (fu Y p (cah B L0 it v : Int))) := (congrFun eh89_1 _).trans hup_s
                      have ht__3 : h89_1 (a + 3) = some (ai G 8 ST) := (congrFun eh89_1 _).trans ((hup_n (by omega)).trans ht__1)
                      have hq__3 : h89_1 (a + 4) = some (ai G 8 QU) := (congrFun eh89_1 _).trans ((hup_n (by omega)).trans hq__1)
                      have fr__3 : ∀ q : Nat, (q < a + 2 ∨ a + 2 < q) → h89_1 q = h q := fun q hq => (congrFun eh89_1 q).trans ((hup_n (by omega)).trans (fr__1 q hq))
                      refine g_iinc k (lv2 := [(0, .ref a), (1, vi ((v : Int) + 1)), (2, vi (cah B L0 it v : Int)), (3, vi (p : Int))]) rfl (by decide) rfl rfl dX1_fillProfile_90 ?_
                      refine g_goto k (tgt := 2) dX1_fillProfile_93 (by decide) ?_
                      refine g_less (lv2 := [(0, .ref a), (1, vi ((v : Int) + 1))]) ⟨rfl, rfl, trivial⟩ ?_
                      exact ih2 (v + 1) (insF P p (cah B L0 it v)) (fu Y p (cah B L0 it v : Int)) h89_1 ha__3 ho__3 hp__3 ht__3 hq__3 fr__3 (by omega) (hsd.ins (by omega) (fun _ => by omega) hgt (by omega) rfl) (fun j hj => by unfold insF fu; by_cases c1 : j = p; (subst c1; rw [if_pos rfl, if_neg (by omega), if_pos rfl]); (rw [if_neg c1]; by_cases c2 : j < p; (rw [if_pos c2]; exact hlo j c2); (rw [if_neg c2, if_neg c1]; exact hhi j (by omega) (by omega)))) (by omega)
                    · skip
                      refine g_aload_n k rfl dX1_fillProfile_63 ?_
                      refine g_get k 1 3 (C := RX1) (T := TX1) (N := 8) fl_X1_15 rfl wi_X1 (by decide) rfl ha__1 rfl dX1_fillProfile_64 ?_
                      refine g_iload_n k rfl dX1_fillProfile_67 ?_
                      refine g_aload_n k rfl dX1_fillProfile_68 ?_
                      refine g_get k 1 3 (C := RX1) (T := TX1) (N := 8) fl_X1_15 rfl wi_X1 (by decide) rfl ha__1 rfl dX1_fillProfile_69 ?_
                      refine g_iload_n k rfl dX1_fillProfile_72 ?_
                      refine g_iconst k dX1_fillProfile_73 ?_
                      refine g_isub k dX1_fillProfile_74 ?_
                      refine g_iald k (p - 1) hp__1 (by omega) (by omega) (by decide) dX1_fillProfile_75 ?_
                      rw [show Y (p - 1) = (P (p - 1) : Int) from (hlo (p - 1) (by omega))]
                      refine g_iast k p hp__1 (by omega) (by omega) (by decide) dX1_fillProfile_76 (fun h76 eh76 => ?_)
                      have ha__4 : h76 a = some (ob 1 [vi L0, vi g0, .ref (a + 1), .ref (a + 2), vi (it : Int), .ref (a + 3), .ref (a + 4), .ref (a + 5)]) := (congrFun eh76 _).trans ((hup_n (by omega)).trans ha__1)
                      have ho__4 : h76 (a + 1) = some (ai G 8 RO) := (congrFun eh76 _).trans ((hup_n (by omega)).trans ho__1)
                      have hp__4 : h76 (a + 2) = some (ai G 8 (fu Y p (P (p - 1) : Int))) := (congrFun eh76 _).trans hup_s
                      have ht__4 : h76 (a + 3) = some (ai G 8 ST) := (congrFun eh76 _).trans ((hup_n (by omega)).trans ht__1)
                      have hq__4 : h76 (a + 4) = some (ai G 8 QU) := (congrFun eh76 _).trans ((hup_n (by omega)).trans hq__1)
                      have fr__4 : ∀ q : Nat, (q < a + 2 ∨ a + 2 < q) → h76 q = h q := fun q hq => (congrFun eh76 q).trans ((hup_n (by omega)).trans (fr__1 q hq))
                      refine g_iinc k (lv2 := [(0, .ref a), (1, vi (v : Int)), (2, vi (cah B L0 it v : Int)), (3, vi ((p : Int) + (-1)))]) rfl (by decide) rfl rfl dX1_fillProfile_77 ?_
                      refine g_goto k (tgt := 47) dX1_fillProfile_80 (by decide) ?_
                      rw [show (p : Int) + -1 = ((p - 1 : Nat) : Int) by omega]
                      exact ih47 (p - 1) (fu Y p (P (p - 1) : Int)) h76 ha__4 ho__4 hp__4 ht__4 hq__4 fr__4 (by omega) (fun j hj => (fu_n (by omega)).trans (hlo j (by omega))) (fun j g1 g2 => by rcases (show j = p ∨ p < j by omega) with rfl | q; exact fu_s; exact (fu_n (by omega)).trans (hhi j q g2)) (fun j g1 g2 => by rcases (show j = p - 1 ∨ p ≤ j by omega) with rfl | q; omega; exact hgt j q g2) (by omega)
              exact K47 _ v Z h2 ha_ ho_ hp_ ht_ hq_ fr_ (by omega) hz (fun j g1 g2 => by omega) (fun j g1 g2 => by omega) (Nat.lt_succ_self _)
            · skip
              have K37 : ∀ (z : Int) (hz2 : bz (pre B L0 n v) z), Go G X 4 QQ 0 0 nx 37 [(0, .ref a), (1, vi (v : Int)), (2, vi (ct (fun u => pre B L0 u v) n : Int)), (3, vi (n : Int))] [vi z, vi (ct (fun u => pre B L0 u v) n : Int)] h2 := by
                intro z hz2
                have eq : (ct (fun u => pre B L0 u v) n : Int) + z = (ct (fun u => pre B L0 u v) (n + 1) : Nat) := by
                  rw [show ct (fun u => pre B L0 u v) (n + 1) = (haveI := Classical.propDecidable (pre B L0 n v); if pre B L0 n v then ct (fun u => pre B L0 u v) n + 1 else ct (fun u => pre B L0 u v) n) from rfl]
                  rcases hz2 with q | q
                  · rw [if_pos q.1, q.2]; rfl
                  · rw [if_neg q.1, q.2]; omega
                refine g_iadd k dX1_fillProfile_37 ?_
                rw [show (ct (fun u => pre B L0 u v) n : Int) + z = (ct (fun u => pre B L0 u v) (n + 1) : Int) from eq]
                refine g_istore_n k (lv2 := [(0, .ref a), (1, vi (v : Int)), (2, vi (ct (fun u => pre B L0 u v) (n + 1) : Int)), (3, vi (n : Int))]) (by decide) rfl rfl dX1_fillProfile_38 ?_
                refine g_iinc k (lv2 := [(0, .ref a), (1, vi (v : Int)), (2, vi (ct (fun u => pre B L0 u v) (n + 1) : Int)), (3, vi ((n : Int) + 1))]) rfl (by decide) rfl rfl dX1_fillProfile_39 ?_
                refine g_goto k (tgt := 14) dX1_fillProfile_42 (by decide) ?_
                exact ih14 (n + 1) (by omega) (by omega)
              refine g_iload_n k rfl dX1_fillProfile_22 ?_
              refine g_aload_n k rfl dX1_fillProfile_23 ?_
              refine g_iload_n k rfl dX1_fillProfile_24 ?_
              refine g_iload_n k rfl dX1_fillProfile_25 ?_
              refine g_cVi k 1 (As := [vi (n : Int), vi (v : Int)]) v_X1_precedes rfl rfl ha_ ml_X1_58 (c_X1_precedes ⟨ha_, ho_, hp_, ht_, hq_⟩ rfl hO hB hL (x := n) (y := v) (by omega) (by omega)) (by omega) (by omega) rfl (Nat.le_of_ble_eq_true rfl) rfl dX1_fillProfile_26 (fun r26 h26 p26 => ?_)
              obtain ⟨eh26, p26⟩ := p26
              have eh26 := eh26.symm; subst eh26
              have q26 := p26
              have q26r := q26.r
              refine g_if_eq k (tgt := 36) (by omega) dX1_fillProfile_29 (by decide) (fun c29 => ?_) (fun c29 => ?_)
              · skip
                refine g_iconst k dX1_fillProfile_36 ?_
                exact K37 _ (bz.n (q26.f (by omega)))
              · skip
                refine g_iconst k dX1_fillProfile_32 ?_
                refine g_goto k (tgt := 37) dX1_fillProfile_33 (by decide) ?_
                exact K37 _ (bz.y (q26.t (by omega)))
        exact K14 _ 0 (Nat.zero_le _) (Nat.lt_succ_self _)
  exact K2 _ 0 (fun _ => 0) PR h ha ho hp ht hq fr0 (Nat.zero_le _) ⟨fun i j _ hj => absurd hj (Nat.not_lt_zero j), fun i hi => absurd hi (Nat.not_lt_zero i), fun t => rfl⟩ (fun j hj => absurd hj (Nat.not_lt_zero j)) (Nat.lt_succ_self _)

