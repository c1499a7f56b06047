/-! shapes: how many rows there are from a place on -/
def sm1 (f : Nat → Nat) : Nat → Nat → Nat
  | 0, _ => 0
  | k + 1, x => f x + sm1 f k (x + 1)
def rF : Nat → Nat → Nat → Nat
  | 0, _, _ => 1
  | m + 1, i, x => sm1 (rF m (i + 1)) (i + 1 - x) x
theorem sm1_le {f : Nat → Nat} {B : Nat} : ∀ k x, (∀ y, x ≤ y → y < x + k → f y ≤ B) → sm1 f k x ≤ k * B
  | 0, x, _ => by unfold sm1; omega
  | k + 1, x, h => by
    have h1 := sm1_le k (x + 1) (fun y g1 g2 => h y (by omega) (by omega))
    have h2 := h x (by omega) (by omega)
    unfold sm1
    rw [Nat.succ_mul]
    omega
theorem rF_le : ∀ m i x, i + m ≤ 8 → rF m i x ≤ 8 ^ m
  | 0, i, x, _ => Nat.le_refl _
  | m + 1, i, x, h => by
    unfold rF
    have := sm1_le (f := rF m (i + 1)) (B := 8 ^ m) (i + 1 - x) x (fun y _ _ => rF_le m (i + 1) y (by omega))
    rw [Nat.pow_succ]
    have h2 : (i + 1 - x) * 8 ^ m ≤ 8 * 8 ^ m := Nat.mul_le_mul_right _ (by omega)
    omega
theorem p88 {m : Nat} (h : m ≤ 8) : 8 ^ m ≤ 16777216 := Nat.le_trans (Nat.pow_le_pow_right (by decide) h) (by decide)
def TS (G : Gx) (h : Hp) (a : Nat) (T : Nat → Int) : Prop := h a = some (ob 6 [.ref (a + 1)]) ∧ h (a + 1) = some (ai G 169 T)
def Fld (T : Nat → Int) (n : Nat) : Prop := ∀ i x, i ≤ n → x ≤ i → T (i * 13 + x) = rF (n - i) i x
set_option maxHeartbeats 600000 in
set_option maxRecDepth 100000 in
theorem c_X6_tailAt {G : Gx} {h : Hp} {nx a : Nat} {T : Nat → Int} (hT : TS G h a T) {i x : Nat} (hi : i < 13) (hx : x < 13) : Con G yX6_tailAt cX6_tailAt 3 (some .int) 1 0 0 [.ref a, vi (i : Int), vi (x : Int)] h nx (PI fun z h' => h' = h ∧ z = T (i * 13 + x)) := by
  obtain ⟨ha, hm⟩ := hT
  refine Con.of v_X6_tailAt.2.2.2.2.2.1 (Nat.le_of_ble_eq_true rfl) (lv := [(0, .ref a), (1, vi (i : Int)), (2, vi (x : Int))]) rfl (fun X k => ?_)
  generalize hQQ : QM G X nx 0 0 _ = QQ
  refine g_aload_n k rfl dX6_tailAt_0 ?_
  refine g_get k 6 0 (C := RX6) (T := TX6) (N := 1) fl_X6_9 rfl wi_X6 (by decide) rfl ha rfl dX6_tailAt_1 ?_
  refine g_iload_n k rfl dX6_tailAt_4 ?_
  refine g_bipush k rfl dX6_tailAt_5 ?_
  refine g_imul k dX6_tailAt_7 ?_
  refine g_iload_n k rfl dX6_tailAt_8 ?_
  refine g_iadd k dX6_tailAt_9 ?_
  refine g_iald k ((i * 13) + x) hm (by omega) (by omega) (by decide) dX6_tailAt_10 ?_
  rw [← hQQ]
  refine g_ireti k rfl dX6_tailAt_11 ?_
  exact ⟨rfl, rfl⟩

set_option maxHeartbeats 600000 in
set_option maxRecDepth 100000 in
theorem c_X6_fillTails {G : Gx} {h : Hp} {nx a : Nat} {T : Nat → Int} (hT : TS G h a T) {n : Nat} (hn : n ≤ 12) : Con G yX6_fillTails cX6_fillTails 5 none 2 0 0 [.ref a, vi (n : Int)] h nx (PV fun h' => (∃ T2 : Nat → Int, TS G h' a T2 ∧ Fld T2 n) ∧ ∀ q : Nat, (q < a + 1 ∨ a + 1 < q) → h' q = h q) := by
  obtain ⟨ha, hm⟩ := hT
  refine Con.of v_X6_fillTails.2.2.2.2.2.1 (Nat.le_of_ble_eq_true rfl) (lv := [(0, .ref a), (1, vi (n : Int))]) rfl (fun X k => ?_)
  generalize hQQ : QM G X nx 0 0 _ = QQ
  have fr0 : ∀ q : Nat, (q < a + 1 ∨ a + 1 < q) → h q = h q := fun _ _ => rfl
  refine g_iconst k dX6_fillTails_0 ?_
  refine g_istore_n k (lv2 := [(0, .ref a), (1, vi (n : Int)), (2, vi 0)]) (by decide) rfl rfl dX6_fillTails_1 ?_
  have K2 : ∀ (nz : Nat) (x : Nat) (Z : Nat → Int) (h2 : Hp) (ha_ : h2 a = some (ob 6 [.ref (a + 1)])) (hm_ : h2 (a + 1) = some (ai G 169 Z)) (fr_ : ∀ q : Nat, (q < a + 1 ∨ a + 1 < q) → h2 q = h q) (hx : x ≤ 13) (hz : ∀ y, y < x → Z (n * 13 + y) = 1) (hmz : 13 - x < nz), Go G X 5 QQ 0 0 nx 2 [(0, .ref a), (1, vi (n : Int)), (2, vi (x : Int))] [] h2 := by
    intro nz
    induction nz with
    | zero => intro x Z h2 ha_ hm_ fr_ hx hz hmz; exact absurd hmz (Nat.not_lt_zero _)
    | succ nz ih2 =>
      intro x Z h2 ha_ hm_ fr_ hx hz hmz
      refine g_iload_n k rfl dX6_fillTails_2 ?_
      refine g_bipush k rfl dX6_fillTails_3 ?_
      refine g_icmp_ge k (tgt := 26) (by omega) (by omega) dX6_fillTails_5 (by decide) (fun c5 => ?_) (fun c5 => ?_)
      · skip
        refine g_iload_n k rfl dX6_fillTails_26 ?_
        refine g_iconst k dX6_fillTails_27 ?_
        refine g_isub k dX6_fillTails_28 ?_
        refine g_istore_n k (lv2 := [(0, .ref a), (1, vi (n : Int)), (2, vi ((n : Int) - 1))]) (by decide) rfl rfl dX6_fillTails_29 ?_
        have K30 : ∀ (nz_1 : Nat) (c : Nat) (Y : Nat → Int) (h30 : Hp) (ha__1 : h30 a = some (ob 6 [.ref (a + 1)])) (hm__1 : h30 (a + 1) = some (ai G 169 Y)) (fr__1 : ∀ q : Nat, (q < a + 1 ∨ a + 1 < q) → h30 q = h q) (hc : c ≤ n) (hy : ∀ i y, c ≤ i → i ≤ n → y ≤ i → Y (i * 13 + y) = rF (n - i) i y) (hmz_1 : c < nz_1), Go G X 5 QQ 0 0 nx 30 [(0, .ref a), (1, vi (n : Int)), (2, vi ((c : Int) - 1))] [] h30 := by
          intro nz_1
          induction nz_1 with
          | zero => intro c Y h30 ha__1 hm__1 fr__1 hc hy hmz_1; exact absurd hmz_1 (Nat.not_lt_zero _)
          | succ nz_1 ih30 =>
            intro c Y h30 ha__1 hm__1 fr__1 hc hy hmz_1
            refine g_iload_n k rfl dX6_fillTails_30 ?_
            refine g_if_lt k (tgt := 81) (by omega) dX6_fillTails_31 (by decide) (fun c31 => ?_) (fun c31 => ?_)
            · skip
              rw [← hQQ]
              refine g_retv k rfl dX6_fillTails_81 ?_
              have e0 : c = 0 := by omega
              subst e0
              exact ⟨⟨Y, ⟨ha__1, hm__1⟩, fun i x g1 g2 => hy i x (Nat.zero_le i) g1 g2⟩, fr__1⟩
            · skip
              rw [show (c : Int) - 1 = ((c - 1 : Nat) : Int) by omega]
              refine g_iconst k dX6_fillTails_34 ?_
              refine g_istore_n k (lv2 := [(0, .ref a), (1, vi (n : Int)), (2, vi ((c - 1 : Nat) : Int)), (3, vi 0)]) (by decide) rfl rfl dX6_fillTails_35 ?_
              refine g_iload_n k rfl dX6_fillTails_36 ?_
              refine g_istore k (lv2 := [(0, .ref a), (1, vi (n : Int)), (2, vi ((c - 1 : Nat) : Int)), (3, vi 0), (4, vi ((c - 1 : Nat) : Int))]) (by decide) rfl rfl dX6_fillTails_37 ?_
              have K39 : ∀ (nz_2 : Nat) (e : Nat) (V : Nat → Int) (h39 : Hp) (ha__2 : h39 a = some (ob 6 [.ref (a + 1)])) (hm__2 : h39 (a + 1) = some (ai G 169 V)) (fr__2 : ∀ q : Nat, (q < a + 1 ∨ a + 1 < q) → h39 q = h q) (he : e ≤ c) (hold : ∀ i y, c ≤ i → i ≤ n → y ≤ i → V (i * 13 + y) = rF (n - i) i y) (hnew : ∀ y, e ≤ y → y < c → V ((c - 1) * 13 + y) = sm1 (rF (n - c) c) (c - y) y) (hmz_2 : e < nz_2), Go G X 5 QQ 0 0 nx 39 [(0, .ref a), (1, vi (n : Int)), (2, vi ((c - 1 : Nat) : Int)), (3, vi (sm1 (rF (n - c) c) (c - e) e : Int)), (4, vi ((e : Int) - 1))] [] h39 := by
                intro nz_2
                induction nz_2 with
                | zero => intro e V h39 ha__2 hm__2 fr__2 he hold hnew hmz_2; exact absurd hmz_2 (Nat.not_lt_zero _)
                | succ nz_2 ih39 =>
                  intro e V h39 ha__2 hm__2 fr__2 he hold hnew hmz_2
                  refine g_iload k rfl dX6_fillTails_39 ?_
                  refine g_if_lt k (tgt := 75) (by omega) dX6_fillTails_41 (by decide) (fun c41 => ?_) (fun c41 => ?_)
                  · skip
                    refine g_iinc k (lv2 := [(0, .ref a), (1, vi (n : Int)), (2, vi (((c - 1 : Nat) : Int) + (-1))), (3, vi (sm1 (rF (n - c) c) (c - e) e : Int)), (4, vi ((e : Int) - 1))]) rfl (by decide) rfl rfl dX6_fillTails_75 ?_
                    refine g_goto k (tgt := 30) dX6_fillTails_78 (by decide) ?_
                    refine g_less (lv2 := [(0, .ref a), (1, vi (n : Int)), (2, vi (((c - 1 : Nat) : Int) + (-1)))]) ⟨rfl, rfl, rfl, trivial⟩ ?_
                    rw [show ((c - 1 : Nat) : Int) + -1 = ((c - 1 : Nat) : Int) - 1 by omega]
                    exact ih30 (c - 1) V h39 ha__2 hm__2 fr__2 (by omega) (fun i y g1 g2 g3 => by rcases (show i = c - 1 ∨ c ≤ i by omega) with rfl | q; (rw [show n - (c - 1) = n - c + 1 by omega, rF, show c - 1 + 1 = c by omega]; exact hnew y (by omega) (by omega)); exact hold i y q g2 g3) (by omega)
                  · skip
                    rw [show (e : Int) - 1 = ((e - 1 : Nat) : Int) by omega]
                    refine g_iload_n k rfl dX6_fillTails_44 ?_
                    refine g_aload_n k rfl dX6_fillTails_45 ?_
                    refine g_iload_n k rfl dX6_fillTails_46 ?_
                    refine g_iconst k dX6_fillTails_47 ?_
                    refine g_iadd k dX6_fillTails_48 ?_
                    rw [show ((c - 1 : Nat) : Int) + 1 = (c : Int) from (by omega)]
                    refine g_iload k rfl dX6_fillTails_49 ?_
                    refine g_cVi k 6 (As := [vi (c : Int), vi ((e - 1 : Nat) : Int)]) v_X6_tailAt rfl rfl ha__2 ml_X6_17 (c_X6_tailAt ⟨ha__2, hm__2⟩ (i := c) (x := e - 1) (by omega) (by omega)) (by omega) (by omega) rfl (Nat.le_of_ble_eq_true rfl) rfl dX6_fillTails_51 (fun r51 h51 p51 => ?_)
                    obtain ⟨eh51, p51⟩ := p51
                    have eh51 := eh51.symm; subst eh51
                    subst p51
                    refine g_iadd k dX6_fillTails_54 ?_
                    rw [show (sm1 (rF (n - c) c) (c - e) e : Int) + (V (c * 13 + (e - 1))) = (sm1 (rF (n - c) c) (c - (e - 1)) (e - 1) : Int) from (by rw [hold c (e - 1) (by omega) (by omega) (by omega), show c - (e - 1) = c - e + 1 by omega, sm1, show e - 1 + 1 = e by omega]; omega)]
                    refine g_istore_n k (lv2 := [(0, .ref a), (1, vi (n : Int)), (2, vi ((c - 1 : Nat) : Int)), (3, vi (sm1 (rF (n - c) c) (c - (e - 1)) (e - 1) : Int)), (4, vi ((e - 1 : Nat) : Int))]) (by decide) rfl rfl dX6_fillTails_55 ?_
                    refine g_aload_n k rfl dX6_fillTails_56 ?_
                    refine g_get k 6 0 (C := RX6) (T := TX6) (N := 1) fl_X6_9 rfl wi_X6 (by decide) rfl ha__2 rfl dX6_fillTails_57 ?_
                    refine g_iload_n k rfl dX6_fillTails_60 ?_
                    refine g_bipush k rfl dX6_fillTails_61 ?_
                    refine g_imul k dX6_fillTails_63 ?_
                    refine g_iload k rfl dX6_fillTails_64 ?_
                    refine g_iadd k dX6_fillTails_66 ?_
                    refine g_iload_n k rfl dX6_fillTails_67 ?_
                    refine g_iast k ((c - 1) * 13 + (e - 1)) hm__2 (by omega) (by omega) (by decide) dX6_fillTails_68 (fun h68 eh68 => ?_)
                    have ha__3 : h68 a = some (ob 6 [.ref (a + 1)]) := (congrFun eh68 _).trans ((hup_n (by omega)).trans ha__2)
                    have hm__3 : h68 (a + 1) = some (ai G 169 (fu V ((c - 1) * 13 + (e - 1)) (sm1 (rF (n - c) c) (c - (e - 1)) (e - 1) : Int))) := (congrFun eh68 _).trans hup_s
                    have fr__3 : ∀ q : Nat, (q < a + 1 ∨ a + 1 < q) → h68 q = h q := fun q hq => (congrFun eh68 q).trans ((hup_n (by omega)).trans (fr__2 q hq))
                    refine g_iinc k (lv2 := [(0, .ref a), (1, vi (n : Int)), (2, vi ((c - 1 : Nat) : Int)), (3, vi (sm1 (rF (n - c) c) (c - (e - 1)) (e - 1) : Int)), (4, vi (((e - 1 : Nat) : Int) + (-1)))]) rfl (by decide) rfl rfl dX6_fillTails_69 ?_
                    refine g_goto k (tgt := 39) dX6_fillTails_72 (by decide) ?_
                    rw [show ((e - 1 : Nat) : Int) + -1 = ((e - 1 : Nat) : Int) - 1 by omega]
                    exact ih39 (e - 1) (fu V ((c - 1) * 13 + (e - 1)) (sm1 (rF (n - c) c) (c - (e - 1)) (e - 1) : Nat)) h68 ha__3 hm__3 fr__3 (by omega) (fun i y g1 g2 g3 => (fu_n (by omega)).trans (hold i y g1 g2 g3)) (fun y g1 g2 => by rcases (show y = e - 1 ∨ e ≤ y by omega) with rfl | q; exact fu_s; exact (fu_n (by omega)).trans (hnew y q g2)) (by omega)
              refine g_less (lv2 := [(0, .ref a), (1, vi (n : Int)), (2, vi ((c - 1 : Nat) : Int)), (3, vi 0), (4, vi ((c : Int) - 1))]) ⟨rfl, rfl, rfl, rfl, by rw [show (c : Int) - 1 = ((c - 1 : Nat) : Int) by omega]; rfl, trivial⟩ ?_
              rw [show (0 : Int) = (sm1 (rF (n - c) c) (c - c) c : Nat) by rw [Nat.sub_self]; rfl]
              exact K39 _ c Y h30 ha__1 hm__1 fr__1 (Nat.le_refl c) hy (fun y g1 g2 => by omega) (Nat.lt_succ_self _)
        exact K30 _ n Z h2 ha_ hm_ fr_ (Nat.le_refl n) (fun i y g1 g2 g3 => by rw [show i = n by omega, Nat.sub_self]; exact hz y (by omega)) (Nat.lt_succ_self _)
      · skip
        refine g_aload_n k rfl dX6_fillTails_8 ?_
        refine g_get k 6 0 (C := RX6) (T := TX6) (N := 1) fl_X6_9 rfl wi_X6 (by decide) rfl ha_ rfl dX6_fillTails_9 ?_
        refine g_iload_n k rfl dX6_fillTails_12 ?_
        refine g_bipush k rfl dX6_fillTails_13 ?_
        refine g_imul k dX6_fillTails_15 ?_
        refine g_iload_n k rfl dX6_fillTails_16 ?_
        refine g_iadd k dX6_fillTails_17 ?_
        refine g_iconst k dX6_fillTails_18 ?_
        refine g_iast k (n * 13 + x) hm_ (by omega) (by omega) (by decide) dX6_fillTails_19 (fun h19 eh19 => ?_)
        have ha__4 : h19 a = some (ob 6 [.ref (a + 1)]) := (congrFun eh19 _).trans ((hup_n (by omega)).trans ha_)
        have hm__4 : h19 (a + 1) = some (ai G 169 (fu Z (n * 13 + x) 1)) := (congrFun eh19 _).trans hup_s
        have fr__4 : ∀ q : Nat, (q < a + 1 ∨ a + 1 < q) → h19 q = h q := fun q hq => (congrFun eh19 q).trans ((hup_n (by omega)).trans (fr_ q hq))
        refine g_iinc k (lv2 := [(0, .ref a), (1, vi (n : Int)), (2, vi ((x : Int) + 1))]) rfl (by decide) rfl rfl dX6_fillTails_20 ?_
        refine g_goto k (tgt := 2) dX6_fillTails_23 (by decide) ?_
        exact ih2 (x + 1) (fu Z (n * 13 + x) 1) h19 ha__4 hm__4 fr__4 (by omega) (lt_s2 (fun j hj => (fu_n (by omega)).trans (hz j hj)) fu_s) (by omega)
  exact K2 _ 0 T h ha hm fr0 (Nat.zero_le _) (fun j hj => absurd hj (Nat.not_lt_zero j)) (Nat.lt_succ_self _)

set_option maxHeartbeats 600000 in
set_option maxRecDepth 100000 in
theorem c_X6_howMany {G : Gx} {h : Hp} {nx a : Nat} {T : Nat → Int} (hT : TS G h a T) {n : Nat} (hn : n ≤ 12) : Con G yX6_howMany cX6_howMany 2 (some .int) 3 0 0 [.ref a, vi (n : Int)] h nx (PI fun z h' => z = (rF n 0 0 : Nat) ∧ (∃ T2 : Nat → Int, TS G h' a T2 ∧ Fld T2 n) ∧ ∀ q : Nat, (q < a + 1 ∨ a + 1 < q) → h' q = h q) := by
  obtain ⟨ha, hm⟩ := hT
  refine Con.of v_X6_howMany.2.2.2.2.2.1 (Nat.le_of_ble_eq_true rfl) (lv := [(0, .ref a), (1, vi (n : Int))]) rfl (fun X k => ?_)
  generalize hQQ : QM G X nx 0 0 _ = QQ
  have fr0 : ∀ q : Nat, (q < a + 1 ∨ a + 1 < q) → h q = h q := fun _ _ => rfl
  refine g_aload_n k rfl dX6_howMany_0 ?_
  refine g_iload_n k rfl dX6_howMany_1 ?_
  refine g_cVv k 6 (As := [vi (n : Int)]) v_X6_fillTails rfl rfl ha ml_X6_13 (c_X6_fillTails ⟨ha, hm⟩ hn) (by omega) (by omega) rfl (Nat.le_of_ble_eq_true rfl) rfl dX6_howMany_2 (fun h2 p2 => ?_)
  obtain ⟨⟨T2, ⟨na, nm⟩, hfl⟩, nfr⟩ := p2
  have ha_ : h2 a = some (ob 6 [.ref (a + 1)]) := na
  have hm_ : h2 (a + 1) = some (ai G 169 T2) := nm
  have fr_ : ∀ q : Nat, (q < a + 1 ∨ a + 1 < q) → h2 q = h q := fun q hq => (nfr q (by omega)).trans (fr0 q hq)
  refine g_aload_n k rfl dX6_howMany_5 ?_
  refine g_get k 6 0 (C := RX6) (T := TX6) (N := 1) fl_X6_9 rfl wi_X6 (by decide) rfl ha_ rfl dX6_howMany_6 ?_
  refine g_iconst k dX6_howMany_9 ?_
  refine g_iald k 0 hm_ (by omega) (by omega) (by decide) dX6_howMany_10 ?_
  rw [← hQQ]
  refine g_ireti k rfl dX6_howMany_11 ?_
  exact ⟨hfl 0 0 (Nat.zero_le n) (Nat.le_refl 0), ⟨T2, ⟨ha_, hm_⟩, hfl⟩, fr_⟩

/-- how many rows are ahead of the row P; its first i numbers -/
def rkI (n i lo : Nat) : Nat → Nat
  | 0 => 0
  | k + 1 => rkI n i lo k + rF (n - (i + 1)) (i + 1) (lo + k)
def rkF (n : Nat) (P : Nat → Nat) : Nat → Nat
  | 0 => 0
  | i + 1 => rkF n P i + rkI n i (if i = 0 then 0 else P (i - 1)) (P i - (if i = 0 then 0 else P (i - 1)))
set_option maxHeartbeats 600000 in
set_option maxRecDepth 100000 in
theorem c_X6_rankOf {G : Gx} {h : Hp} {nx a : Nat} {T : Nat → Int} (hT : TS G h a T) {n b : Nat} (hn : n ≤ 8) {Z : Nat → Int} (hb : h b = some (ai G 8 Z)) (hd : b < a ∨ a + 1 < b) {P : Nat → Nat} (hP : ∀ i, i < n → Z i = P i ∧ P i ≤ i) (hPm : ∀ i j, i < j → j < n → P i ≤ P j) : Con G yX6_rankOf cX6_rankOf 7 (some .int) 3 0 0 [.ref a, .ref b, vi (n : Int)] h nx (PI fun z h' => z = (rkF n P n : Nat) ∧ (∃ T2 : Nat → Int, TS G h' a T2) ∧ ∀ q : Nat, (q < a + 1 ∨ a + 1 < q) → h' q = h q) := by
  obtain ⟨ha, hm⟩ := hT
  refine Con.of v_X6_rankOf.2.2.2.2.2.1 (Nat.le_of_ble_eq_true rfl) (lv := [(0, .ref a), (1, .ref b), (2, vi (n : Int))]) rfl (fun X k => ?_)
  generalize hQQ : QM G X nx 0 0 _ = QQ
  have fr0 : ∀ q : Nat, (q < a + 1 ∨ a + 1 < q) → h q = h q := fun _ _ => rfl
  refine g_aload_n k rfl dX6_rankOf_0 ?_
  refine g_iload_n k rfl dX6_rankOf_1 ?_
  refine g_cVv k 6 (As := [vi (n : Int)]) v_X6_fillTails rfl rfl ha ml_X6_13 (c_X6_fillTails ⟨ha, hm⟩ (by omega)) (by omega) (by omega) rfl (Nat.le_of_ble_eq_true rfl) rfl dX6_rankOf_2 (fun h2 p2 => ?_)
  obtain ⟨⟨T2, ⟨na, nm⟩, hfl⟩, nfr⟩ := p2
  have ha_ : h2 a = some (ob 6 [.ref (a + 1)]) := na
  have hm_ : h2 (a + 1) = some (ai G 169 T2) := nm
  have hb_ : h2 b = some (ai G 8 Z) := (nfr _ (by omega)).trans hb
  have fr_ : ∀ q : Nat, (q < a + 1 ∨ a + 1 < q) → h2 q = h q := fun q hq => (nfr q (by omega)).trans (fr0 q hq)
  refine g_iconst k dX6_rankOf_5 ?_
  refine g_istore_n k (lv2 := [(0, .ref a), (1, .ref b), (2, vi (n : Int)), (3, vi 0)]) (by decide) rfl rfl dX6_rankOf_6 ?_
  refine g_iconst k dX6_rankOf_7 ?_
  refine g_istore k (lv2 := [(0, .ref a), (1, .ref b), (2, vi (n : Int)), (3, vi 0), (4, vi 0)]) (by decide) rfl rfl dX6_rankOf_8 ?_
  refine g_iconst k dX6_rankOf_10 ?_
  refine g_istore k (lv2 := [(0, .ref a), (1, .ref b), (2, vi (n : Int)), (3, vi 0), (4, vi 0), (5, vi 0)]) (by decide) rfl rfl dX6_rankOf_11 ?_
  have K13 : ∀ (nz : Nat) (i : Nat) (lo : Nat) (hi : i ≤ n) (hlo : lo = (if i = 0 then 0 else P (i - 1))) (hmz : n - i < nz), Go G X 7 QQ 0 0 nx 13 [(0, .ref a), (1, .ref b), (2, vi (n : Int)), (3, vi (rkF n P i : Int)), (4, vi (lo : Int)), (5, vi (i : Int))] [] h2 := by
    intro nz
    induction nz with
    | zero => intro i lo hi hlo hmz; exact absurd hmz (Nat.not_lt_zero _)
    | succ nz ih13 =>
      intro i lo hi hlo hmz
      refine g_iload k rfl dX6_rankOf_13 ?_
      refine g_iload_n k rfl dX6_rankOf_15 ?_
      refine g_icmp_ge k (tgt := 63) (by omega) (by omega) dX6_rankOf_16 (by decide) (fun c16 => ?_) (fun c16 => ?_)
      · skip
        refine g_iload_n k rfl dX6_rankOf_63 ?_
        rw [← hQQ]
        refine g_ireti k rfl dX6_rankOf_64 ?_
        have e : i = n := by omega
        subst e
        exact ⟨rfl, ⟨T2, ⟨ha_, hm_⟩⟩, fr_⟩
      · skip
        have hPi := (hP i (by omega)).2
        have hlP : lo ≤ P i := by
          rw [hlo]
          split
          · exact Nat.zero_le _
          · exact hPm (i - 1) i (by omega) (by omega)
        refine g_iload k rfl dX6_rankOf_19 ?_
        refine g_istore k (lv2 := [(0, .ref a), (1, .ref b), (2, vi (n : Int)), (3, vi (rkF n P i : Int)), (4, vi (lo : Int)), (5, vi (i : Int)), (6, vi (lo : Int))]) (by decide) rfl rfl dX6_rankOf_21 ?_
        have K23 : ∀ (nz_1 : Nat) (m : Nat) (hm : m ≤ P i - lo) (hmz_1 : P i - lo - m < nz_1), Go G X 7 QQ 0 0 nx 23 [(0, .ref a), (1, .ref b), (2, vi (n : Int)), (3, vi ((rkF n P i + rkI n i lo m : Nat) : Int)), (4, vi (lo : Int)), (5, vi (i : Int)), (6, vi ((lo + m : Nat) : Int))] [] h2 := by
          intro nz_1
          induction nz_1 with
          | zero => intro m hm hmz_1; exact absurd hmz_1 (Nat.not_lt_zero _)
          | succ nz_1 ih23 =>
            intro m hm hmz_1
            refine g_iload k rfl dX6_rankOf_23 ?_
            refine g_aload_n k rfl dX6_rankOf_25 ?_
            refine g_iload k rfl dX6_rankOf_26 ?_
            refine g_iald k i hb_ (by omega) (by omega) (by decide) dX6_rankOf_28 ?_
            rw [show Z i = (P i : Int) from ((hP _ (by omega)).1)]
            refine g_icmp_ge k (tgt := 51) (by omega) (by omega) dX6_rankOf_29 (by decide) (fun c29 => ?_) (fun c29 => ?_)
            · skip
              have em : m = P i - lo := by omega
              rw [show rkF n P i + rkI n i lo m = rkF n P (i + 1) by rw [rkF, ← hlo, em]]
              refine g_aload_n k rfl dX6_rankOf_51 ?_
              refine g_iload k rfl dX6_rankOf_52 ?_
              refine g_iald k i hb_ (by omega) (by omega) (by decide) dX6_rankOf_54 ?_
              rw [show Z i = (P i : Int) from ((hP _ (by omega)).1)]
              refine g_istore k (lv2 := [(0, .ref a), (1, .ref b), (2, vi (n : Int)), (3, vi (rkF n P (i + 1) : Int)), (4, vi (P i : Int)), (5, vi (i : Int)), (6, vi ((lo + m : Nat) : Int))]) (by decide) rfl rfl dX6_rankOf_55 ?_
              refine g_iinc k (lv2 := [(0, .ref a), (1, .ref b), (2, vi (n : Int)), (3, vi (rkF n P (i + 1) : Int)), (4, vi (P i : Int)), (5, vi ((i : Int) + 1)), (6, vi ((lo + m : Nat) : Int))]) rfl (by decide) rfl rfl dX6_rankOf_57 ?_
              refine g_goto k (tgt := 13) dX6_rankOf_60 (by decide) ?_
              refine g_less (lv2 := [(0, .ref a), (1, .ref b), (2, vi (n : Int)), (3, vi (rkF n P (i + 1) : Int)), (4, vi (P i : Int)), (5, vi ((i : Int) + 1))]) ⟨rfl, rfl, rfl, rfl, rfl, rfl, trivial⟩ ?_
              exact ih13 (i + 1) (P i) (by omega) (by rw [if_neg (by omega)]; rfl) (by omega)
            · skip
              refine g_iload_n k rfl dX6_rankOf_32 ?_
              refine g_aload_n k rfl dX6_rankOf_33 ?_
              refine g_iload k rfl dX6_rankOf_34 ?_
              refine g_iconst k dX6_rankOf_36 ?_
              refine g_iadd k dX6_rankOf_37 ?_
              refine g_iload k rfl dX6_rankOf_38 ?_
              refine g_cVi k 6 (As := [vi ((i : Int) + 1), vi ((lo + m : Nat) : Int)]) v_X6_tailAt rfl rfl ha_ ml_X6_17 (c_X6_tailAt ⟨ha_, hm_⟩ (i := i + 1) (x := lo + m) (by omega) (by omega)) (by omega) (by omega) rfl (Nat.le_of_ble_eq_true rfl) rfl dX6_rankOf_40 (fun r40 h40 p40 => ?_)
              obtain ⟨eh40, p40⟩ := p40
              have eh40 := eh40.symm; subst eh40
              subst p40
              refine g_iadd k dX6_rankOf_43 ?_
              rw [show ((rkF n P i + rkI n i lo m : Nat) : Int) + (T2 ((i + 1) * 13 + (lo + m))) = ((rkF n P i + rkI n i lo (m + 1) : Nat) : Int) from (by rw [hfl (i + 1) (lo + m) (by omega) (by omega), rkI]; omega)]
              refine g_istore_n k (lv2 := [(0, .ref a), (1, .ref b), (2, vi (n : Int)), (3, vi ((rkF n P i + rkI n i lo (m + 1) : Nat) : Int)), (4, vi (lo : Int)), (5, vi (i : Int)), (6, vi ((lo + m : Nat) : Int))]) (by decide) rfl rfl dX6_rankOf_44 ?_
              refine g_iinc k (lv2 := [(0, .ref a), (1, .ref b), (2, vi (n : Int)), (3, vi ((rkF n P i + rkI n i lo (m + 1) : Nat) : Int)), (4, vi (lo : Int)), (5, vi (i : Int)), (6, vi (((lo + m : Nat) : Int) + 1))]) rfl (by decide) rfl rfl dX6_rankOf_45 ?_
              refine g_goto k (tgt := 23) dX6_rankOf_48 (by decide) ?_
              exact ih23 (m + 1) (by omega) (by omega)
        exact K23 _ 0 (Nat.zero_le _) (Nat.lt_succ_self _)
  exact K13 _ 0 0 (Nat.zero_le _) rfl (Nat.lt_succ_self _)

/-- spelling a row by its rank: behind i numbers, what is left of the rank and the last number -/
def spX (n i : Nat) : Nat → Nat → Nat → Nat × Nat
  | 0, l, x => (l, x)
  | k + 1, l, x => if x < i ∧ rF (n - (i + 1)) (i + 1) x ≤ l then spX n i k (l - rF (n - (i + 1)) (i + 1) x) (x + 1) else (l, x)
def spS (n r : Nat) : Nat → Nat × Nat
  | 0 => (r, 0)
  | i + 1 => spX n i (i + 1) (spS n r i).1 (spS n r i).2
theorem spX_b {n i : Nat} : ∀ k l x, x ≤ i → (spX n i k l x).2 ≤ i ∧ x ≤ (spX n i k l x).2 ∧ (spX n i k l x).1 ≤ l
  | 0, l, x, h => ⟨h, Nat.le_refl x, Nat.le_refl l⟩
  | k + 1, l, x, h => by
    unfold spX
    split
    · have := spX_b (n := n) (i := i) k (l - rF (n - (i + 1)) (i + 1) x) (x + 1) (by omega)
      omega
    · exact ⟨h, Nat.le_refl x, Nat.le_refl l⟩
theorem spS_b {n r : Nat} : ∀ i, (spS n r i).2 ≤ i - 1 ∧ (spS n r i).1 ≤ r
  | 0 => ⟨Nat.le_refl 0, Nat.le_refl r⟩
  | i + 1 => by
    have ih := spS_b (n := n) (r := r) i
    have := spX_b (n := n) (i := i) (i + 1) (spS n r i).1 (spS n r i).2 (by omega)
    unfold spS
    omega
def spl (n r i : Nat) : Nat := (spS n r (i + 1)).2
set_option maxHeartbeats 600000 in
set_option maxRecDepth 100000 in
theorem c_X6_spell {G : Gx} {h : Hp} {nx a : Nat} {T : Nat → Int} (hT : TS G h a T) {n r b : Nat} (hn : n ≤ 8) (hr : r < 2147483648) {Z : Nat → Int} (hb : h b = some (ai G 8 Z)) (hd : b < a ∨ a + 1 < b) : Con G yX6_spell cX6_spell 7 none 3 0 0 [.ref a, vi (n : Int), vi (r : Int), .ref b] h nx (PV fun h' => (∃ Z2 : Nat → Int, h' b = some (ai G 8 Z2) ∧ ∀ i, i < n → Z2 i = spl n r i) ∧ (∃ T2 : Nat → Int, TS G h' a T2) ∧ ∀ q : Nat, (q < a + 1 ∨ a + 1 < q) → q ≠ b → h' q = h q) := by
  obtain ⟨ha, hm⟩ := hT
  refine Con.of v_X6_spell.2.2.2.2.2.1 (Nat.le_of_ble_eq_true rfl) (lv := [(0, .ref a), (1, vi (n : Int)), (2, vi (r : Int)), (3, .ref b)]) rfl (fun X k => ?_)
  generalize hQQ : QM G X nx 0 0 _ = QQ
  have fr0 : ∀ q : Nat, ((q < a + 1 ∨ a + 1 < q) ∧ q ≠ b) → h q = h q := fun _ _ => rfl
  refine g_aload_n k rfl dX6_spell_0 ?_
  refine g_iload_n k rfl dX6_spell_1 ?_
  refine g_cVv k 6 (As := [vi (n : Int)]) v_X6_fillTails rfl rfl ha ml_X6_13 (c_X6_fillTails ⟨ha, hm⟩ (by omega)) (by omega) (by omega) rfl (Nat.le_of_ble_eq_true rfl) rfl dX6_spell_2 (fun h2 p2 => ?_)
  obtain ⟨⟨T2, ⟨na, nm⟩, hfl⟩, nfr⟩ := p2
  have ha_ : h2 a = some (ob 6 [.ref (a + 1)]) := na
  have hm_ : h2 (a + 1) = some (ai G 169 T2) := nm
  have hb_ : h2 b = some (ai G 8 Z) := (nfr _ (by omega)).trans hb
  have fr_ : ∀ q : Nat, ((q < a + 1 ∨ a + 1 < q) ∧ q ≠ b) → h2 q = h q := fun q hq => (nfr q (by omega)).trans (fr0 q hq)
  refine g_iload_n k rfl dX6_spell_5 ?_
  refine g_istore k (lv2 := [(0, .ref a), (1, vi (n : Int)), (2, vi (r : Int)), (3, .ref b), (4, vi (r : Int))]) (by decide) rfl rfl dX6_spell_6 ?_
  refine g_iconst k dX6_spell_8 ?_
  refine g_istore k (lv2 := [(0, .ref a), (1, vi (n : Int)), (2, vi (r : Int)), (3, .ref b), (4, vi (r : Int)), (5, vi 0)]) (by decide) rfl rfl dX6_spell_9 ?_
  refine g_iconst k dX6_spell_11 ?_
  refine g_istore k (lv2 := [(0, .ref a), (1, vi (n : Int)), (2, vi (r : Int)), (3, .ref b), (4, vi (r : Int)), (5, vi 0), (6, vi 0)]) (by decide) rfl rfl dX6_spell_12 ?_
  have K14 : ∀ (nz : Nat) (i : Nat) (Z2 : Nat → Int) (h14 : Hp) (ha__1 : h14 a = some (ob 6 [.ref (a + 1)])) (hm__1 : h14 (a + 1) = some (ai G 169 T2)) (hb__1 : h14 b = some (ai G 8 Z2)) (fr__1 : ∀ q : Nat, ((q < a + 1 ∨ a + 1 < q) ∧ q ≠ b) → h14 q = h q) (hi : i ≤ n) (hz : ∀ j, j < i → Z2 j = spl n r j) (hmz : n - i < nz), Go G X 7 QQ 0 0 nx 14 [(0, .ref a), (1, vi (n : Int)), (2, vi (r : Int)), (3, .ref b), (4, vi ((spS n r i).1 : Int)), (5, vi ((spS n r i).2 : Int)), (6, vi (i : Int))] [] h14 := by
    intro nz
    induction nz with
    | zero => intro i Z2 h14 ha__1 hm__1 hb__1 fr__1 hi hz hmz; exact absurd hmz (Nat.not_lt_zero _)
    | succ nz ih14 =>
      intro i Z2 h14 ha__1 hm__1 hb__1 fr__1 hi hz hmz
      refine g_iload k rfl dX6_spell_14 ?_
      refine g_iload_n k rfl dX6_spell_16 ?_
      refine g_icmp_ge k (tgt := 75) (by omega) (by omega) dX6_spell_17 (by decide) (fun c17 => ?_) (fun c17 => ?_)
      · skip
        rw [← hQQ]
        refine g_retv k rfl dX6_spell_75 ?_
        have e : i = n := by omega
        subst e
        exact ⟨⟨Z2, hb__1, hz⟩, ⟨T2, ⟨ha__1, hm__1⟩⟩, fun q g1 g2 => fr__1 q ⟨g1, g2⟩⟩
      · skip
        have hsb := spS_b (n := n) (r := r) i
        have K20 : ∀ (nz_1 : Nat) (k1 : Nat) (l : Nat) (x : Nat) (hx : x ≤ i) (hl : l ≤ r) (hk : i < k1 + x) (hs : spX n i k1 l x = spS n r (i + 1)) (hmz_1 : i + 1 - x < nz_1), Go G X 7 QQ 0 0 nx 20 [(0, .ref a), (1, vi (n : Int)), (2, vi (r : Int)), (3, .ref b), (4, vi (l : Int)), (5, vi (x : Int)), (6, vi (i : Int))] [] h14 := by
          intro nz_1
          induction nz_1 with
          | zero => intro k1 l x hx hl hk hs hmz_1; exact absurd hmz_1 (Nat.not_lt_zero _)
          | succ nz_1 ih20 =>
            intro k1 l x hx hl hk hs hmz_1
            refine g_iload k rfl dX6_spell_20 ?_
            refine g_iload k rfl dX6_spell_22 ?_
            refine g_icmp_ge k (tgt := 63) (by omega) (by omega) dX6_spell_24 (by decide) (fun c24 => ?_) (fun c24 => ?_)
            · skip
              have hk1 : k1 ≠ 0 := by omega
              have es : (l, x) = spS n r (i + 1) := by rw [← hs, show k1 = k1 - 1 + 1 by omega, spX, if_neg (by omega)]
              rw [show l = (spS n r (i + 1)).1 by rw [← es], show x = (spS n r (i + 1)).2 by rw [← es]]
              refine g_aload_n k rfl dX6_spell_63 ?_
              refine g_iload k rfl dX6_spell_64 ?_
              refine g_iload k rfl dX6_spell_66 ?_
              refine g_iast k i hb__1 (by omega) (by omega) (by decide) dX6_spell_68 (fun h68 eh68 => ?_)
              have ha__2 : h68 a = some (ob 6 [.ref (a + 1)]) := (congrFun eh68 _).trans ((hup_n (by omega)).trans ha__1)
              have hm__2 : h68 (a + 1) = some (ai G 169 T2) := (congrFun eh68 _).trans ((hup_n (by omega)).trans hm__1)
              have hb__2 : h68 b = some (ai G 8 (fu Z2 i ((spS n r (i + 1)).2 : Int))) := (congrFun eh68 _).trans hup_s
              have fr__2 : ∀ q : Nat, ((q < a + 1 ∨ a + 1 < q) ∧ q ≠ b) → h68 q = h q := fun q hq => (congrFun eh68 q).trans ((hup_n (by omega)).trans (fr__1 q hq))
              refine g_iinc k (lv2 := [(0, .ref a), (1, vi (n : Int)), (2, vi (r : Int)), (3, .ref b), (4, vi ((spS n r (i + 1)).1 : Int)), (5, vi ((spS n r (i + 1)).2 : Int)), (6, vi ((i : Int) + 1))]) rfl (by decide) rfl rfl dX6_spell_69 ?_
              refine g_goto k (tgt := 14) dX6_spell_72 (by decide) ?_
              exact ih14 (i + 1) (fu Z2 i ((spS n r (i + 1)).2 : Int)) h68 ha__2 hm__2 hb__2 fr__2 (by omega) (lt_s2 (fun j hj => (fu_n (by omega)).trans (hz j hj)) fu_s) (by omega)
            · skip
              have hT := hfl (i + 1) x (by omega) (by omega)
              have hle := rF_le (n - (i + 1)) (i + 1) x (by omega)
              have hp := p88 (m := n - (i + 1)) (by omega)
              refine g_iload k rfl dX6_spell_27 ?_
              refine g_aload_n k rfl dX6_spell_29 ?_
              refine g_iload k rfl dX6_spell_30 ?_
              refine g_iconst k dX6_spell_32 ?_
              refine g_iadd k dX6_spell_33 ?_
              refine g_iload k rfl dX6_spell_34 ?_
              refine g_cVi k 6 (As := [vi ((i : Int) + 1), vi (x : Int)]) v_X6_tailAt rfl rfl ha__1 ml_X6_17 (c_X6_tailAt ⟨ha__1, hm__1⟩ (i := i + 1) (x := x) (by omega) (by omega)) (by omega) (by omega) rfl (Nat.le_of_ble_eq_true rfl) rfl dX6_spell_36 (fun r36 h36 p36 => ?_)
              obtain ⟨eh36, p36⟩ := p36
              have eh36 := eh36.symm; subst eh36
              subst p36
              refine g_icmp_lt k (tgt := 63) (by omega) (by omega) dX6_spell_39 (by decide) (fun c39 => ?_) (fun c39 => ?_)
              · skip
                have hk1 : k1 ≠ 0 := by omega
                have es : (l, x) = spS n r (i + 1) := by rw [← hs, show k1 = k1 - 1 + 1 by omega, spX, if_neg (by omega)]
                rw [show l = (spS n r (i + 1)).1 by rw [← es], show x = (spS n r (i + 1)).2 by rw [← es]]
                refine g_aload_n k rfl dX6_spell_63 ?_
                refine g_iload k rfl dX6_spell_64 ?_
                refine g_iload k rfl dX6_spell_66 ?_
                refine g_iast k i hb__1 (by omega) (by omega) (by decide) dX6_spell_68 (fun h68_1 eh68_1 => ?_)
                have ha__3 : h68_1 a = some (ob 6 [.ref (a + 1)]) := (congrFun eh68_1 _).trans ((hup_n (by omega)).trans ha__1)
                have hm__3 : h68_1 (a + 1) = some (ai G 169 T2) := (congrFun eh68_1 _).trans ((hup_n (by omega)).trans hm__1)
                have hb__3 : h68_1 b = some (ai G 8 (fu Z2 i ((spS n r (i + 1)).2 : Int))) := (congrFun eh68_1 _).trans hup_s
                have fr__3 : ∀ q : Nat, ((q < a + 1 ∨ a + 1 < q) ∧ q ≠ b) → h68_1 q = h q := fun q hq => (congrFun eh68_1 q).trans ((hup_n (by omega)).trans (fr__1 q hq))
                refine g_iinc k (lv2 := [(0, .ref a), (1, vi (n : Int)), (2, vi (r : Int)), (3, .ref b), (4, vi ((spS n r (i + 1)).1 : Int)), (5, vi ((spS n r (i + 1)).2 : Int)), (6, vi ((i : Int) + 1))]) rfl (by decide) rfl rfl dX6_spell_69 ?_
                refine g_goto k (tgt := 14) dX6_spell_72 (by decide) ?_
                exact ih14 (i + 1) (fu Z2 i ((spS n r (i + 1)).2 : Int)) h68_1 ha__3 hm__3 hb__3 fr__3 (by omega) (lt_s2 (fun j hj => (fu_n (by omega)).trans (hz j hj)) fu_s) (by omega)
              · skip
                refine g_iload k rfl dX6_spell_42 ?_
                refine g_aload_n k rfl dX6_spell_44 ?_
                refine g_iload k rfl dX6_spell_45 ?_
                refine g_iconst k dX6_spell_47 ?_
                refine g_iadd k dX6_spell_48 ?_
                refine g_iload k rfl dX6_spell_49 ?_
                refine g_cVi k 6 (As := [vi ((i : Int) + 1), vi (x : Int)]) v_X6_tailAt rfl rfl ha__1 ml_X6_17 (c_X6_tailAt ⟨ha__1, hm__1⟩ (i := i + 1) (x := x) (by omega) (by omega)) (by omega) (by omega) rfl (Nat.le_of_ble_eq_true rfl) rfl dX6_spell_51 (fun r51 h51 p51 => ?_)
                obtain ⟨eh51, p51⟩ := p51
                have eh51 := eh51.symm; subst eh51
                subst p51
                refine g_isub k dX6_spell_54 ?_
                rw [show (l : Int) - (T2 ((i + 1) * 13 + x)) = ((l - rF (n - (i + 1)) (i + 1) x : Nat) : Int) from (by omega)]
                refine g_istore k (lv2 := [(0, .ref a), (1, vi (n : Int)), (2, vi (r : Int)), (3, .ref b), (4, vi ((l - rF (n - (i + 1)) (i + 1) x : Nat) : Int)), (5, vi (x : Int)), (6, vi (i : Int))]) (by decide) rfl rfl dX6_spell_55 ?_
                refine g_iinc k (lv2 := [(0, .ref a), (1, vi (n : Int)), (2, vi (r : Int)), (3, .ref b), (4, vi ((l - rF (n - (i + 1)) (i + 1) x : Nat) : Int)), (5, vi ((x : Int) + 1)), (6, vi (i : Int))]) rfl (by decide) rfl rfl dX6_spell_57 ?_
                refine g_goto k (tgt := 20) dX6_spell_60 (by decide) ?_
                exact ih20 (k1 - 1) (l - rF (n - (i + 1)) (i + 1) x) (x + 1) (by omega) (by omega) (by omega) (by rw [← hs, show k1 = k1 - 1 + 1 by omega, spX, if_pos ⟨by omega, by omega⟩]; rfl) (by omega)
        exact K20 _ (i + 1) ((spS n r i).1) ((spS n r i).2) (by omega) (by omega) (by omega) rfl (Nat.lt_succ_self _)
  exact K14 _ 0 Z h2 ha_ hm_ hb_ fr_ (Nat.zero_le _) (fun j hj => absurd hj (Nat.not_lt_zero j)) (Nat.lt_succ_self _)

