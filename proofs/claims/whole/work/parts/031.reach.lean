/-! sums between items: an object of two cells, its 64 numbers -/
def RA (G : Gx) (h : Hp) (a it : Nat) (M : Nat → Int) : Prop := h a = some (ob 3 [vi (it : Int), .ref (a + 1)]) ∧ h (a + 1) = some (ai G 64 M)
/-- all numbers are small -/
def Bd (B : Int) (M : Nat → Int) : Prop := ∀ j : Nat, j < 64 → M j ≤ B ∧ (M j = -1000000000 ∨ -B ≤ M j)
/-- the row of u raised by what goes on from m, its first n numbers -/
def rrw (M : Nat → Int) (u : Nat) (more : Int) (m n : Nat) : Nat → Int := fun j => if j / 8 = u ∧ j % 8 < n then (if M (m * 8 + j % 8) = -1000000000 ∨ more + M (m * 8 + j % 8) ≤ M j then M j else more + M (m * 8 + j % 8)) else M j
theorem rrw_0 {M : Nat → Int} {u m : Nat} {more : Int} : rrw M u more m 0 = M := by funext j; unfold rrw; rw [if_neg (by omega)]
theorem rrw_in {M : Nat → Int} {u m n : Nat} {more : Int} {c : Nat} (hc : c < 8) (h : n ≤ c) : rrw M u more m n (u * 8 + c) = M (u * 8 + c) := by unfold rrw; rw [if_neg (by omega)]
theorem rrw_m {M : Nat → Int} {u m n : Nat} {more : Int} {c : Nat} (hc : c < 8) (h : n ≤ c) : rrw M u more m n (m * 8 + c) = M (m * 8 + c) := by unfold rrw; rw [if_neg (by omega)]
theorem rrw_no {M : Nat → Int} {u m n : Nat} {more : Int} (hn : n < 8) (h : M (m * 8 + n) = -1000000000 ∨ more + M (m * 8 + n) ≤ M (u * 8 + n)) : rrw M u more m n = rrw M u more m (n + 1) := by
  funext j
  unfold rrw
  by_cases e : j = u * 8 + n
  · subst e
    rw [if_neg (by omega), if_pos (by omega), show (u * 8 + n) % 8 = n by omega, if_pos h]
  · by_cases q : j / 8 = u ∧ j % 8 < n
    · rw [if_pos q, if_pos (show j / 8 = u ∧ j % 8 < n + 1 by omega)]
    · rw [if_neg q, if_neg (show ¬ (j / 8 = u ∧ j % 8 < n + 1) by omega)]
theorem rrw_yes {M : Nat → Int} {u m n : Nat} {more : Int} (hn : n < 8) (h : ¬ M (m * 8 + n) = -1000000000) (h2 : M (u * 8 + n) < more + M (m * 8 + n)) : fu (rrw M u more m n) (u * 8 + n) (more + M (m * 8 + n)) = rrw M u more m (n + 1) := by
  funext j
  by_cases e : j = u * 8 + n
  · subst e
    rw [fu_s]
    unfold rrw
    rw [if_pos (by omega), show (u * 8 + n) % 8 = n by omega, if_neg (by omega)]
  · rw [fu_n e]
    unfold rrw
    by_cases q : j / 8 = u ∧ j % 8 < n
    · rw [if_pos q, if_pos (show j / 8 = u ∧ j % 8 < n + 1 by omega)]
    · rw [if_neg q, if_neg (show ¬ (j / 8 = u ∧ j % 8 < n + 1) by omega)]

set_option maxHeartbeats 600000 in
set_option maxRecDepth 100000 in
theorem c_X3_between {G : Gx} {h : Hp} {nx a it : Nat} {M : Nat → Int} (hM : RA G h a it M) {u v : Nat} (hu : u < 8) (hv : v < 8) : Con G yX3_between cX3_between 3 (some .int) 1 0 0 [.ref a, vi (u : Int), vi (v : Int)] h nx (PI fun z h' => h' = h ∧ z = M (u * 8 + v)) := by
  obtain ⟨ha, hm⟩ := hM
  refine Con.of v_X3_between.2.2.2.2.2.1 (Nat.le_of_ble_eq_true rfl) (lv := [(0, .ref a), (1, vi (u : Int)), (2, vi (v : Int))]) rfl (fun X k => ?_)
  generalize hQQ : QM G X nx 0 0 _ = QQ
  refine g_aload_n k rfl dX3_between_0 ?_
  refine g_get k 3 1 (C := RX3) (T := TX3) (N := 2) fl_X3_9 rfl wi_X3 (by decide) rfl ha rfl dX3_between_1 ?_
  refine g_iload_n k rfl dX3_between_4 ?_
  refine g_bipush k rfl dX3_between_5 ?_
  refine g_imul k dX3_between_7 ?_
  refine g_iload_n k rfl dX3_between_8 ?_
  refine g_iadd k dX3_between_9 ?_
  refine g_iald k ((u * 8) + v) hm (by omega) (by omega) (by decide) dX3_between_10 ?_
  rw [← hQQ]
  refine g_ireti k rfl dX3_between_11 ?_
  exact ⟨rfl, rfl⟩

set_option maxHeartbeats 600000 in
set_option maxRecDepth 100000 in
theorem c_X3_raiseRow {G : Gx} {h : Hp} {nx a it : Nat} {M : Nat → Int} (hM : RA G h a it M) (h8 : it ≤ 8) {u m : Nat} {more B : Int} (hu : u < 8) (hm8 : m < 8) (hB : Bd B M) (hB2 : 0 ≤ B ∧ B ≤ 100000000) (hmo : -100000000 ≤ more ∧ more ≤ 100000000) : Con G yX3_raiseRow cX3_raiseRow 8 none 1 0 0 [.ref a, vi (u : Int), vi more, vi (m : Int)] h nx (PV fun h' => RA G h' a it (rrw M u more m it) ∧ ∀ q : Nat, (q < a ∨ a + 1 < q) → h' q = h q) := by
  obtain ⟨ha, hm⟩ := hM
  refine Con.of v_X3_raiseRow.2.2.2.2.2.1 (Nat.le_of_ble_eq_true rfl) (lv := [(0, .ref a), (1, vi (u : Int)), (2, vi more), (3, vi (m : Int))]) rfl (fun X k => ?_)
  generalize hQQ : QM G X nx 0 0 _ = QQ
  have fr0 : ∀ q : Nat, (q < a ∨ a + 1 < q) → h q = h q := fun _ _ => rfl
  refine g_iload_n k rfl dX3_raiseRow_0 ?_
  refine g_bipush k rfl dX3_raiseRow_1 ?_
  refine g_imul k dX3_raiseRow_3 ?_
  refine g_istore k (lv2 := [(0, .ref a), (1, vi (u : Int)), (2, vi more), (3, vi (m : Int)), (4, vi ((u : Int) * 8))]) (by decide) rfl rfl dX3_raiseRow_4 ?_
  refine g_iload_n k rfl dX3_raiseRow_6 ?_
  refine g_bipush k rfl dX3_raiseRow_7 ?_
  refine g_imul k dX3_raiseRow_9 ?_
  refine g_istore k (lv2 := [(0, .ref a), (1, vi (u : Int)), (2, vi more), (3, vi (m : Int)), (4, vi ((u : Int) * 8)), (5, vi ((m : Int) * 8))]) (by decide) rfl rfl dX3_raiseRow_10 ?_
  refine g_iconst k dX3_raiseRow_12 ?_
  refine g_istore k (lv2 := [(0, .ref a), (1, vi (u : Int)), (2, vi more), (3, vi (m : Int)), (4, vi ((u : Int) * 8)), (5, vi ((m : Int) * 8)), (6, vi 0)]) (by decide) rfl rfl dX3_raiseRow_13 ?_
  have K15 : ∀ (nz : Nat) (v : Nat) (h15 : Hp) (ha_ : h15 a = some (ob 3 [vi (it : Int), .ref (a + 1)])) (hm_ : h15 (a + 1) = some (ai G 64 (rrw M u more m v))) (fr_ : ∀ q : Nat, (q < a ∨ a + 1 < q) → h15 q = h q) (hv : v ≤ it) (hmz : it - v < nz), Go G X 8 QQ 0 0 nx 15 [(0, .ref a), (1, vi (u : Int)), (2, vi more), (3, vi (m : Int)), (4, vi ((u : Int) * 8)), (5, vi ((m : Int) * 8)), (6, vi (v : Int))] [] h15 := by
    intro nz
    induction nz with
    | zero => intro v h15 ha_ hm_ fr_ hv hmz; exact absurd hmz (Nat.not_lt_zero _)
    | succ nz ih15 =>
      intro v h15 ha_ hm_ fr_ hv hmz
      refine g_iload k rfl dX3_raiseRow_15 ?_
      refine g_aload_n k rfl dX3_raiseRow_17 ?_
      refine g_get k 3 0 (C := RX3) (T := TX3) (N := 2) fl_X3_15 rfl wi_X3 (by decide) rfl ha_ rfl dX3_raiseRow_18 ?_
      refine g_icmp_ge k (tgt := 80) (by omega) (by omega) dX3_raiseRow_21 (by decide) (fun c21 => ?_) (fun c21 => ?_)
      · skip
        rw [← hQQ]
        refine g_retv k rfl dX3_raiseRow_80 ?_
        have e : v = it := by omega
        subst e
        exact ⟨⟨ha_, hm_⟩, fr_⟩
      · skip
        have b1 := hB (m * 8 + v) (by omega)
        have b2 := hB (u * 8 + v) (by omega)
        refine g_aload_n k rfl dX3_raiseRow_24 ?_
        refine g_get k 3 1 (C := RX3) (T := TX3) (N := 2) fl_X3_9 rfl wi_X3 (by decide) rfl ha_ rfl dX3_raiseRow_25 ?_
        refine g_iload k rfl dX3_raiseRow_28 ?_
        refine g_iload k rfl dX3_raiseRow_30 ?_
        refine g_iadd k dX3_raiseRow_32 ?_
        refine g_iald k (m * 8 + v) hm_ (by omega) (by omega) (by decide) dX3_raiseRow_33 ?_
        rw [show (rrw M u more m v) (m * 8 + v) = M (m * 8 + v) from rrw_m (by omega) (Nat.le_refl v)]
        refine g_istore k (lv2 := [(0, .ref a), (1, vi (u : Int)), (2, vi more), (3, vi (m : Int)), (4, vi ((u : Int) * 8)), (5, vi ((m : Int) * 8)), (6, vi (v : Int)), (7, vi (M (m * 8 + v)))]) (by decide) rfl rfl dX3_raiseRow_34 ?_
        refine g_iload k rfl dX3_raiseRow_36 ?_
        refine g_ldc k (z := (-1000000000)) cn_X3_48 rfl dX3_raiseRow_38 ?_
        refine g_icmp_eq k (tgt := 74) (by omega) (by omega) dX3_raiseRow_40 (by decide) (fun c40 => ?_) (fun c40 => ?_)
        · skip
          refine g_iinc k (lv2 := [(0, .ref a), (1, vi (u : Int)), (2, vi more), (3, vi (m : Int)), (4, vi ((u : Int) * 8)), (5, vi ((m : Int) * 8)), (6, vi ((v : Int) + 1)), (7, vi (M (m * 8 + v)))]) rfl (by decide) rfl rfl dX3_raiseRow_74 ?_
          refine g_goto k (tgt := 15) dX3_raiseRow_77 (by decide) ?_
          refine g_less (lv2 := [(0, .ref a), (1, vi (u : Int)), (2, vi more), (3, vi (m : Int)), (4, vi ((u : Int) * 8)), (5, vi ((m : Int) * 8)), (6, vi ((v : Int) + 1))]) ⟨rfl, rfl, rfl, rfl, rfl, rfl, rfl, trivial⟩ ?_
          rw [rrw_no (by omega) (by omega)] at hm_
          exact ih15 (v + 1) h15 ha_ hm_ fr_ (by omega) (by omega)
        · skip
          refine g_iload_n k rfl dX3_raiseRow_43 ?_
          refine g_iload k rfl dX3_raiseRow_44 ?_
          refine g_iadd k dX3_raiseRow_46 ?_
          refine g_aload_n k rfl dX3_raiseRow_47 ?_
          refine g_get k 3 1 (C := RX3) (T := TX3) (N := 2) fl_X3_9 rfl wi_X3 (by decide) rfl ha_ rfl dX3_raiseRow_48 ?_
          refine g_iload k rfl dX3_raiseRow_51 ?_
          refine g_iload k rfl dX3_raiseRow_53 ?_
          refine g_iadd k dX3_raiseRow_55 ?_
          refine g_iald k (u * 8 + v) hm_ (by omega) (by omega) (by decide) dX3_raiseRow_56 ?_
          rw [show (rrw M u more m v) (u * 8 + v) = M (u * 8 + v) from rrw_in (by omega) (Nat.le_refl v)]
          refine g_icmp_le k (tgt := 74) (by omega) (by omega) dX3_raiseRow_57 (by decide) (fun c57 => ?_) (fun c57 => ?_)
          · skip
            refine g_iinc k (lv2 := [(0, .ref a), (1, vi (u : Int)), (2, vi more), (3, vi (m : Int)), (4, vi ((u : Int) * 8)), (5, vi ((m : Int) * 8)), (6, vi ((v : Int) + 1)), (7, vi (M (m * 8 + v)))]) rfl (by decide) rfl rfl dX3_raiseRow_74 ?_
            refine g_goto k (tgt := 15) dX3_raiseRow_77 (by decide) ?_
            refine g_less (lv2 := [(0, .ref a), (1, vi (u : Int)), (2, vi more), (3, vi (m : Int)), (4, vi ((u : Int) * 8)), (5, vi ((m : Int) * 8)), (6, vi ((v : Int) + 1))]) ⟨rfl, rfl, rfl, rfl, rfl, rfl, rfl, trivial⟩ ?_
            rw [rrw_no (by omega) (by omega)] at hm_
            exact ih15 (v + 1) h15 ha_ hm_ fr_ (by omega) (by omega)
          · skip
            refine g_aload_n k rfl dX3_raiseRow_60 ?_
            refine g_get k 3 1 (C := RX3) (T := TX3) (N := 2) fl_X3_9 rfl wi_X3 (by decide) rfl ha_ rfl dX3_raiseRow_61 ?_
            refine g_iload k rfl dX3_raiseRow_64 ?_
            refine g_iload k rfl dX3_raiseRow_66 ?_
            refine g_iadd k dX3_raiseRow_68 ?_
            refine g_iload_n k rfl dX3_raiseRow_69 ?_
            refine g_iload k rfl dX3_raiseRow_70 ?_
            refine g_iadd k dX3_raiseRow_72 ?_
            refine g_iast k (u * 8 + v) hm_ (by omega) (by omega) (by decide) dX3_raiseRow_73 (fun h73 eh73 => ?_)
            have ha__1 : h73 a = some (ob 3 [vi (it : Int), .ref (a + 1)]) := (congrFun eh73 _).trans ((hup_n (by omega)).trans ha_)
            have hm__1 : h73 (a + 1) = some (ai G 64 (fu (rrw M u more m v) (u * 8 + v) (more + (M (m * 8 + v))))) := (congrFun eh73 _).trans hup_s
            have fr__1 : ∀ q : Nat, (q < a ∨ a + 1 < q) → h73 q = h q := fun q hq => (congrFun eh73 q).trans ((hup_n (by omega)).trans (fr_ q hq))
            refine g_iinc k (lv2 := [(0, .ref a), (1, vi (u : Int)), (2, vi more), (3, vi (m : Int)), (4, vi ((u : Int) * 8)), (5, vi ((m : Int) * 8)), (6, vi ((v : Int) + 1)), (7, vi (M (m * 8 + v)))]) rfl (by decide) rfl rfl dX3_raiseRow_74 ?_
            refine g_goto k (tgt := 15) dX3_raiseRow_77 (by decide) ?_
            refine g_less (lv2 := [(0, .ref a), (1, vi (u : Int)), (2, vi more), (3, vi (m : Int)), (4, vi ((u : Int) * 8)), (5, vi ((m : Int) * 8)), (6, vi ((v : Int) + 1))]) ⟨rfl, rfl, rfl, rfl, rfl, rfl, rfl, trivial⟩ ?_
            rw [rrw_yes (by omega) (by omega) (by omega)] at hm__1
            exact ih15 (v + 1) h73 ha__1 hm__1 fr__1 (by omega) (by omega)
  have hm0 : h (a + 1) = some (ai G 64 (rrw M u more m 0)) := by rw [rrw_0]; exact hm
  clear hm
  rename h (a + 1) = _ => hm
  exact K15 _ 0 h ha hm fr0 (Nat.zero_le _) (Nat.lt_succ_self _)

theorem rrw_bd {M : Nat → Int} {u m n : Nat} {more B C : Int} (hm : m < 8) (hB : Bd B M) (h0 : 0 ≤ B ∧ 0 ≤ C) (h1 : more ≤ C) (h2 : -C ≤ more) : Bd (B + C) (rrw M u more m n) := by
  intro j hj
  have b1 := hB j hj
  have b2 := hB (m * 8 + j % 8) (by omega)
  unfold rrw
  split
  · split <;> omega
  · omega
theorem rrw_other {M : Nat → Int} {u m n : Nat} {more : Int} {j : Nat} (h : j / 8 ≠ u) : rrw M u more m n j = M j := by unfold rrw; rw [if_neg (by omega)]
/-- the rows of all u below n raised over m; over all m below n -/
def clU (M : Nat → Int) (it m : Nat) : Nat → (Nat → Int)
  | 0 => M
  | n + 1 => if n ≠ m ∧ clU M it m n (n * 8 + m) ≠ -1000000000 then rrw (clU M it m n) n (clU M it m n (n * 8 + m)) m it else clU M it m n
def clM (M : Nat → Int) (it : Nat) : Nat → (Nat → Int)
  | 0 => M
  | n + 1 => clU (clM M it n) it n it
theorem clU_at {M : Nat → Int} {it m : Nat} : ∀ (n : Nat) {j : Nat}, (n ≤ j / 8 ∨ j / 8 = m) → clU M it m n j = M j
  | 0, j, _ => rfl
  | n + 1, j, h => by
    unfold clU
    split
    · rw [rrw_other (by omega)]; exact clU_at n (by omega)
    · exact clU_at n (by omega)
theorem clU_bd {M : Nat → Int} {it m : Nat} {B : Int} (hm : m < 8) (hB : Bd B M) (h0 : 0 ≤ B) : ∀ n : Nat, n ≤ 8 → Bd (B + B) (clU M it m n)
  | 0, _ => fun j hj => by have := hB j hj; unfold clU; omega
  | n + 1, hn => by
    have ih := clU_bd hm hB h0 (it := it) n (by omega)
    intro j hj
    have e : clU M it m n (n * 8 + m) = M (n * 8 + m) := clU_at n (by omega)
    have b0 := hB (n * 8 + m) (by omega)
    have b1 := ih j hj
    unfold clU
    split
    · rename_i hc
      rw [e] at hc ⊢
      by_cases hj2 : j / 8 = n
      · have e1 : clU M it m n j = M j := clU_at n (by omega)
        have e2 : clU M it m n (m * 8 + j % 8) = M (m * 8 + j % 8) := clU_at n (Or.inr (by omega))
        have b2 := hB j hj
        have b3 := hB (m * 8 + j % 8) (by omega)
        unfold rrw
        rw [e1, e2]
        split
        · split <;> omega
        · omega
      · rw [rrw_other hj2]; exact b1
    · exact b1
theorem clM_bd {M : Nat → Int} {it : Nat} {B : Int} (hB : Bd B M) (h0 : 0 ≤ B) : ∀ n : Nat, n ≤ 8 → it ≤ 8 → Bd (B * 2 ^ n) (clM M it n)
  | 0, _, _ => by unfold clM; simpa using hB
  | n + 1, hn, hi => by
    have ih := clM_bd hB h0 n (by omega) hi
    have hp : (0 : Int) < 2 ^ n := Int.pow_pos (by decide)
    have h1 := clU_bd (it := it) (m := n) (by omega) ih (Int.mul_nonneg h0 (by omega)) it hi
    unfold clM
    rw [Int.pow_succ, show B * (2 ^ n * 2) = B * 2 ^ n + B * 2 ^ n by rw [← Int.mul_assoc]; omega]
    exact h1
theorem p28 {B : Int} (h0 : 0 ≤ B) (h1 : B ≤ 200) {n : Nat} (hn : n ≤ 8) : 0 ≤ B * 2 ^ n ∧ B * 2 ^ n ≤ 60000 := by
  have hp : (0 : Int) < 2 ^ n := Int.pow_pos (by decide)
  have hq : (2 : Int) ^ n ≤ 256 := by
    have : ∀ n : Nat, n < 9 → (2 : Int) ^ n ≤ 256 := by decide
    exact this n (by omega)
  refine ⟨Int.mul_nonneg h0 (by omega), ?_⟩
  have := Int.mul_le_mul h1 hq (by omega) (by omega)
  omega
set_option maxHeartbeats 600000 in
set_option maxRecDepth 100000 in
theorem c_X3_close {G : Gx} {h : Hp} {nx a it : Nat} {M : Nat → Int} (hM : RA G h a it M) (h8 : it ≤ 8) {B : Int} (hB : Bd B M) (hB2 : 0 ≤ B ∧ B ≤ 200) : Con G yX3_close cX3_close 3 none 2 0 0 [.ref a] h nx (PV fun h' => RA G h' a it (clM M it it) ∧ ∀ q : Nat, (q < a ∨ a + 1 < q) → h' q = h q) := by
  obtain ⟨ha, hm⟩ := hM
  refine Con.of v_X3_close.2.2.2.2.2.1 (Nat.le_of_ble_eq_true rfl) (lv := [(0, .ref a)]) rfl (fun X k => ?_)
  generalize hQQ : QM G X nx 0 0 _ = QQ
  have fr0 : ∀ q : Nat, (q < a ∨ a + 1 < q) → h q = h q := fun _ _ => rfl
  refine g_iconst k dX3_close_0 ?_
  refine g_istore_n k (lv2 := [(0, .ref a), (1, vi 0)]) (by decide) rfl rfl dX3_close_1 ?_
  have K2 : ∀ (nz : Nat) (m : Nat) (h2 : Hp) (ha_ : h2 a = some (ob 3 [vi (it : Int), .ref (a + 1)])) (hm_ : h2 (a + 1) = some (ai G 64 (clM M it m))) (fr_ : ∀ q : Nat, (q < a ∨ a + 1 < q) → h2 q = h q) (hv : m ≤ it) (hmz : it - m < nz), Go G X 3 QQ 0 0 nx 2 [(0, .ref a), (1, vi (m : Int))] [] h2 := by
    intro nz
    induction nz with
    | zero => intro m h2 ha_ hm_ fr_ hv hmz; exact absurd hmz (Nat.not_lt_zero _)
    | succ nz ih2 =>
      intro m h2 ha_ hm_ fr_ hv hmz
      refine g_iload_n k rfl dX3_close_2 ?_
      refine g_aload_n k rfl dX3_close_3 ?_
      refine g_get k 3 0 (C := RX3) (T := TX3) (N := 2) fl_X3_15 rfl wi_X3 (by decide) rfl ha_ rfl dX3_close_4 ?_
      refine g_icmp_ge k (tgt := 60) (by omega) (by omega) dX3_close_7 (by decide) (fun c7 => ?_) (fun c7 => ?_)
      · skip
        rw [← hQQ]
        refine g_retv k rfl dX3_close_60 ?_
        have e : m = it := by omega
        subst e
        exact ⟨⟨ha_, hm_⟩, fr_⟩
      · skip
        have hbm := clM_bd hB hB2.1 m (by omega) h8
        have hpm := p28 hB2.1 hB2.2 (n := m) (by omega)
        refine g_iconst k dX3_close_10 ?_
        refine g_istore_n k (lv2 := [(0, .ref a), (1, vi (m : Int)), (2, vi 0)]) (by decide) rfl rfl dX3_close_11 ?_
        have K12 : ∀ (nz_1 : Nat) (u : Nat) (h12 : Hp) (ha__1 : h12 a = some (ob 3 [vi (it : Int), .ref (a + 1)])) (hm__1 : h12 (a + 1) = some (ai G 64 (clU (clM M it m) it m u))) (fr__1 : ∀ q : Nat, (q < a ∨ a + 1 < q) → h12 q = h q) (hu : u ≤ it) (hmz_1 : it - u < nz_1), Go G X 3 QQ 0 0 nx 12 [(0, .ref a), (1, vi (m : Int)), (2, vi (u : Int))] [] h12 := by
          intro nz_1
          induction nz_1 with
          | zero => intro u h12 ha__1 hm__1 fr__1 hu hmz_1; exact absurd hmz_1 (Nat.not_lt_zero _)
          | succ nz_1 ih12 =>
            intro u h12 ha__1 hm__1 fr__1 hu hmz_1
            refine g_iload_n k rfl dX3_close_12 ?_
            refine g_aload_n k rfl dX3_close_13 ?_
            refine g_get k 3 0 (C := RX3) (T := TX3) (N := 2) fl_X3_15 rfl wi_X3 (by decide) rfl ha__1 rfl dX3_close_14 ?_
            refine g_icmp_ge k (tgt := 54) (by omega) (by omega) dX3_close_17 (by decide) (fun c17 => ?_) (fun c17 => ?_)
            · skip
              refine g_iinc k (lv2 := [(0, .ref a), (1, vi ((m : Int) + 1)), (2, vi (u : Int))]) rfl (by decide) rfl rfl dX3_close_54 ?_
              refine g_goto k (tgt := 2) dX3_close_57 (by decide) ?_
              refine g_less (lv2 := [(0, .ref a), (1, vi ((m : Int) + 1))]) ⟨rfl, rfl, trivial⟩ ?_
              have e : u = it := by omega
              subst e
              exact ih2 (m + 1) h12 ha__1 hm__1 fr__1 (by omega) (by omega)
            · skip
              have hbu := clU_bd (it := it) (m := m) (by omega) hbm hpm.1 u (by omega)
              have b0 := hbu (u * 8 + m) (by omega)
              refine g_iload_n k rfl dX3_close_20 ?_
              refine g_iload_n k rfl dX3_close_21 ?_
              refine g_icmp_eq k (tgt := 48) (by omega) (by omega) dX3_close_22 (by decide) (fun c22 => ?_) (fun c22 => ?_)
              · skip
                refine g_iinc k (lv2 := [(0, .ref a), (1, vi (m : Int)), (2, vi ((u : Int) + 1))]) rfl (by decide) rfl rfl dX3_close_48 ?_
                refine g_goto k (tgt := 12) dX3_close_51 (by decide) ?_
                rw [show clU (clM M it m) it m u = clU (clM M it m) it m (u + 1) by rw [clU, if_neg (by omega)]] at hm__1
                exact ih12 (u + 1) h12 ha__1 hm__1 fr__1 (by omega) (by omega)
              · skip
                refine g_aload_n k rfl dX3_close_25 ?_
                refine g_iload_n k rfl dX3_close_26 ?_
                refine g_iload_n k rfl dX3_close_27 ?_
                refine g_cVi k 3 (As := [vi (u : Int), vi (m : Int)]) v_X3_between rfl rfl ha__1 ml_X3_32 (c_X3_between ⟨ha__1, hm__1⟩ (u := u) (v := m) (by omega) (by omega)) (by omega) (by omega) rfl (Nat.le_of_ble_eq_true rfl) rfl dX3_close_28 (fun r28 h28 p28 => ?_)
                obtain ⟨eh28, p28⟩ := p28
                have eh28 := eh28.symm; subst eh28
                subst p28
                refine g_ldc k (z := (-1000000000)) cn_X3_48 rfl dX3_close_31 ?_
                refine g_icmp_eq k (tgt := 48) (by omega) (by omega) dX3_close_33 (by decide) (fun c33 => ?_) (fun c33 => ?_)
                · skip
                  refine g_iinc k (lv2 := [(0, .ref a), (1, vi (m : Int)), (2, vi ((u : Int) + 1))]) rfl (by decide) rfl rfl dX3_close_48 ?_
                  refine g_goto k (tgt := 12) dX3_close_51 (by decide) ?_
                  rw [show clU (clM M it m) it m u = clU (clM M it m) it m (u + 1) by rw [clU, if_neg (by omega)]] at hm__1
                  exact ih12 (u + 1) h12 ha__1 hm__1 fr__1 (by omega) (by omega)
                · skip
                  refine g_aload_n k rfl dX3_close_36 ?_
                  refine g_iload_n k rfl dX3_close_37 ?_
                  refine g_aload_n k rfl dX3_close_38 ?_
                  refine g_iload_n k rfl dX3_close_39 ?_
                  refine g_iload_n k rfl dX3_close_40 ?_
                  refine g_cVi k 3 (As := [vi (u : Int), vi (m : Int)]) v_X3_between rfl rfl ha__1 ml_X3_32 (c_X3_between ⟨ha__1, hm__1⟩ (u := u) (v := m) (by omega) (by omega)) (by omega) (by omega) rfl (Nat.le_of_ble_eq_true rfl) rfl dX3_close_41 (fun r41 h41 p41 => ?_)
                  obtain ⟨eh41, p41⟩ := p41
                  have eh41 := eh41.symm; subst eh41
                  subst p41
                  refine g_iload_n k rfl dX3_close_44 ?_
                  refine g_cVv k 3 (As := [vi (u : Int), vi ((clU (clM M it m) it m u) (u * 8 + m)), vi (m : Int)]) v_X3_raiseRow rfl rfl ha__1 ml_X3_61 (c_X3_raiseRow ⟨ha__1, hm__1⟩ h8 (by omega) (by omega) hbu (by omega) (by omega)) (by omega) (by omega) rfl (Nat.le_of_ble_eq_true rfl) rfl dX3_close_45 (fun h45 p45 => ?_)
                  obtain ⟨⟨na, nm⟩, nfr⟩ := p45
                  have ha__2 : h45 a = some (ob 3 [vi (it : Int), .ref (a + 1)]) := na
                  have hm__2 : h45 (a + 1) = some (ai G 64 (rrw (clU (clM M it m) it m u) u (clU (clM M it m) it m u (u * 8 + m)) m it)) := nm
                  have fr__2 : ∀ q : Nat, (q < a ∨ a + 1 < q) → h45 q = h q := fun q hq => (nfr q (by omega)).trans (fr__1 q hq)
                  refine g_iinc k (lv2 := [(0, .ref a), (1, vi (m : Int)), (2, vi ((u : Int) + 1))]) rfl (by decide) rfl rfl dX3_close_48 ?_
                  refine g_goto k (tgt := 12) dX3_close_51 (by decide) ?_
                  rw [show rrw (clU (clM M it m) it m u) u (clU (clM M it m) it m u (u * 8 + m)) m it = clU (clM M it m) it m (u + 1) by rw [clU, if_pos (by omega)]] at hm__2
                  exact ih12 (u + 1) h45 ha__2 hm__2 fr__2 (by omega) (by omega)
        exact K12 _ 0 h2 ha_ hm_ fr_ (Nat.zero_le _) (Nat.lt_succ_self _)
  exact K2 _ 0 h ha hm fr0 (Nat.zero_le _) (Nat.lt_succ_self _)

/-- the numbers of single facts, those whose bit stands in w left out -/
def lyB (j : Nat) : Int := if j / 8 = j % 8 then 0 else -1000000000
def lyF (φ : Fs) (w : Nat) (p q : Int) : Nat → (Nat → Int)
  | 0 => lyB
  | n + 1 => if w / 2 ^ n % 2 = 0 then (if kd φ n = 0 then fu (lyF φ w p q n) (fi φ n * 8 + se φ n) p else fu (fu (lyF φ w p q n) (fi φ n * 8 + se φ n) q) (se φ n * 8 + fi φ n) q) else lyF φ w p q n
theorem lyF_bd {φ : Fs} {w : Nat} {p q B : Int} (h0 : 0 ≤ B) (h1 : -B ≤ p ∧ p ≤ B) (h2 : -B ≤ q ∧ q ≤ B) : ∀ n : Nat, Bd B (lyF φ w p q n)
  | 0 => fun j _ => by unfold lyF lyB; split <;> omega
  | n + 1 => by
    have ih := lyF_bd (φ := φ) (w := w) h0 h1 h2 n
    intro j hj
    have := ih j hj
    unfold lyF
    split
    · split
      · unfold fu; split <;> omega
      · unfold fu; split
        · omega
        · split <;> omega
    · exact this
theorem ibit {w n : Nat} : (w : Int) / 2 ^ (n : Int).toNat % 2 ^ 1 = ((w / 2 ^ n % 2 : Nat) : Int) := by
  rw [Int.toNat_natCast, Int.natCast_emod, Int.natCast_ediv, Int.natCast_pow]
  rfl
def reS (M : Nat → Int) (it : Nat) : Prop := ∀ v, v < it → M (v * 8 + v) ≤ 0
set_option maxHeartbeats 600000 in
set_option maxRecDepth 100000 in
theorem c_X3_lay {G : Gx} {h : Hp} {nx a it : Nat} {M : Nat → Int} {it0 b : Nat} {φ : Fs} (hF : FA G h b it φ) (hS : Sm it φ) (hd : a + 1 < b ∨ b + 3 < a) (hM : RA G h a it0 M) {w : Nat} (hw : w < 268435456) {p q : Int} : Con G yX3_lay cX3_lay 7 none 1 0 0 [.ref a, .ref b, vi (w : Int), vi p, vi q] h nx (PV fun h' => RA G h' a it (lyF φ w p q φ.length) ∧ ∀ q : Nat, (q < a ∨ a + 1 < q) → h' q = h q) := by
  obtain ⟨ha, hm⟩ := hM
  obtain ⟨K, F, S, hb, hbk, hbf, hbs, hr⟩ := hF
  obtain ⟨h8, h28, hsm⟩ := hS
  refine Con.of v_X3_lay.2.2.2.2.2.1 (Nat.le_of_ble_eq_true rfl) (lv := [(0, .ref a), (1, .ref b), (2, vi (w : Int)), (3, vi p), (4, vi q)]) rfl (fun X k => ?_)
  generalize hQQ : QM G X nx 0 0 _ = QQ
  have fr0 : ∀ q : Nat, (q < a ∨ a + 1 < q) → h q = h q := fun _ _ => rfl
  refine g_aload_n k rfl dX3_lay_0 ?_
  refine g_aload_n k rfl dX3_lay_1 ?_
  refine g_get k 0 0 (C := RX0) (T := TX0) (N := 5) fl_X3_45 rfl wi_X0 (by decide) rfl hb rfl dX3_lay_2 ?_
  refine g_put k 3 0 (C := RX3) (T := TX3) (N := 2) fl_X3_15 rfl wi_X3 tyX3 tyX3_ok nmX3 (by decide) rfl rfl rfl rfl ha (Nat.le_of_ble_eq_true rfl) (fs2 := [vi (it : Int), .ref (a + 1)]) rfl rfl dX3_lay_5 (fun h5 eh5 => ?_)
  have ha_ : h5 a = some (ob 3 [vi (it : Int), .ref (a + 1)]) := (congrFun eh5 _).trans hup_s
  have hm_ : h5 (a + 1) = some (ai G 64 M) := (congrFun eh5 _).trans ((hup_n (by omega)).trans hm)
  have hb_ : h5 b = some (ob 0 [vi (it : Int), vi (φ.length : Int), .ref (b + 1), .ref (b + 2), .ref (b + 3)]) := (congrFun eh5 _).trans ((hup_n (by omega)).trans hb)
  have hbk_ : h5 (b + 1) = some (ai G 28 K) := (congrFun eh5 _).trans ((hup_n (by omega)).trans hbk)
  have hbf_ : h5 (b + 2) = some (ai G 28 F) := (congrFun eh5 _).trans ((hup_n (by omega)).trans hbf)
  have hbs_ : h5 (b + 3) = some (ai G 28 S) := (congrFun eh5 _).trans ((hup_n (by omega)).trans hbs)
  have fr_ : ∀ q : Nat, (q < a ∨ a + 1 < q) → h5 q = h q := fun q hq => (congrFun eh5 q).trans ((hup_n (by omega)).trans (fr0 q hq))
  refine g_iconst k dX3_lay_8 ?_
  refine g_istore k (lv2 := [(0, .ref a), (1, .ref b), (2, vi (w : Int)), (3, vi p), (4, vi q), (5, vi 0)]) (by decide) rfl rfl dX3_lay_9 ?_
  have K11 : ∀ (nz : Nat) (v : Nat) (h11 : Hp) (ha__1 : h11 a = some (ob 3 [vi (it : Int), .ref (a + 1)])) (hm__1 : h11 (a + 1) = some (ai G 64 (fun j => if j < v then lyB j else M j))) (hb__1 : h11 b = some (ob 0 [vi (it : Int), vi (φ.length : Int), .ref (b + 1), .ref (b + 2), .ref (b + 3)])) (hbk__1 : h11 (b + 1) = some (ai G 28 K)) (hbf__1 : h11 (b + 2) = some (ai G 28 F)) (hbs__1 : h11 (b + 3) = some (ai G 28 S)) (fr__1 : ∀ q : Nat, (q < a ∨ a + 1 < q) → h11 q = h q) (hv : v ≤ 64) (hmz : 64 - v < nz), Go G X 7 QQ 0 0 nx 11 [(0, .ref a), (1, .ref b), (2, vi (w : Int)), (3, vi p), (4, vi q), (5, vi (v : Int))] [] h11 := by
    intro nz
    induction nz with
    | zero => intro v h11 ha__1 hm__1 hb__1 hbk__1 hbf__1 hbs__1 fr__1 hv hmz; exact absurd hmz (Nat.not_lt_zero _)
    | succ nz ih11 =>
      intro v h11 ha__1 hm__1 hb__1 hbk__1 hbf__1 hbs__1 fr__1 hv hmz
      refine g_iload k rfl dX3_lay_11 ?_
      refine g_bipush k rfl dX3_lay_13 ?_
      refine g_icmp_ge k (tgt := 50) (by omega) (by omega) dX3_lay_15 (by decide) (fun c15 => ?_) (fun c15 => ?_)
      · skip
        refine g_cell (g := lyB) hm__1 (fun j hj => by rw [if_pos (by omega)]) (fun h50c eh50c => ?_)
        have ha__2 : h50c a = some (ob 3 [vi (it : Int), .ref (a + 1)]) := (congrFun eh50c _).trans ((hup_n (by omega)).trans ha__1)
        have hm__2 : h50c (a + 1) = some (ai G 64 lyB) := (congrFun eh50c _).trans hup_s
        have hb__2 : h50c b = some (ob 0 [vi (it : Int), vi (φ.length : Int), .ref (b + 1), .ref (b + 2), .ref (b + 3)]) := (congrFun eh50c _).trans ((hup_n (by omega)).trans hb__1)
        have hbk__2 : h50c (b + 1) = some (ai G 28 K) := (congrFun eh50c _).trans ((hup_n (by omega)).trans hbk__1)
        have hbf__2 : h50c (b + 2) = some (ai G 28 F) := (congrFun eh50c _).trans ((hup_n (by omega)).trans hbf__1)
        have hbs__2 : h50c (b + 3) = some (ai G 28 S) := (congrFun eh50c _).trans ((hup_n (by omega)).trans hbs__1)
        have fr__2 : ∀ q : Nat, (q < a ∨ a + 1 < q) → h50c q = h q := fun q hq => (congrFun eh50c q).trans ((hup_n (by omega)).trans (fr__1 q hq))
        refine g_iconst k dX3_lay_50 ?_
        refine g_istore k (lv2 := [(0, .ref a), (1, .ref b), (2, vi (w : Int)), (3, vi p), (4, vi q), (5, vi 0)]) (by decide) rfl rfl dX3_lay_51 ?_
        have K53 : ∀ (nz_1 : Nat) (c : Nat) (h53 : Hp) (ha__3 : h53 a = some (ob 3 [vi (it : Int), .ref (a + 1)])) (hm__3 : h53 (a + 1) = some (ai G 64 (lyF φ w p q c))) (hb__3 : h53 b = some (ob 0 [vi (it : Int), vi (φ.length : Int), .ref (b + 1), .ref (b + 2), .ref (b + 3)])) (hbk__3 : h53 (b + 1) = some (ai G 28 K)) (hbf__3 : h53 (b + 2) = some (ai G 28 F)) (hbs__3 : h53 (b + 3) = some (ai G 28 S)) (fr__3 : ∀ q : Nat, (q < a ∨ a + 1 < q) → h53 q = h q) (hc : c ≤ φ.length) (hmz_1 : φ.length - c < nz_1), Go G X 7 QQ 0 0 nx 53 [(0, .ref a), (1, .ref b), (2, vi (w : Int)), (3, vi p), (4, vi q), (5, vi (c : Int))] [] h53 := by
          intro nz_1
          induction nz_1 with
          | zero => intro c h53 ha__3 hm__3 hb__3 hbk__3 hbf__3 hbs__3 fr__3 hc hmz_1; exact absurd hmz_1 (Nat.not_lt_zero _)
          | succ nz_1 ih53 =>
            intro c h53 ha__3 hm__3 hb__3 hbk__3 hbf__3 hbs__3 fr__3 hc hmz_1
            refine g_iload k rfl dX3_lay_53 ?_
            refine g_aload_n k rfl dX3_lay_55 ?_
            refine g_get k 0 1 (C := RX0) (T := TX0) (N := 5) fl_X3_49 rfl wi_X0 (by decide) rfl hb__3 rfl dX3_lay_56 ?_
            refine g_icmp_ge k (tgt := 152) (by omega) (by omega) dX3_lay_59 (by decide) (fun c59 => ?_) (fun c59 => ?_)
            · skip
              rw [← hQQ]
              refine g_retv k rfl dX3_lay_152 ?_
              have e : c = φ.length := by omega
              subst e
              exact ⟨⟨ha__3, hm__3⟩, fr__3⟩
            · skip
              have hb2 := hsm c (by omega)
              have hw2 : w / 2 ^ c % 2 < 2 := Nat.mod_lt _ (by decide)
              refine g_iload_n k rfl dX3_lay_62 ?_
              refine g_iload k rfl dX3_lay_63 ?_
              refine g_ishr k (by omega) (by omega) dX3_lay_65 ?_
              refine g_iconst k dX3_lay_66 ?_
              refine g_iandm k 1 (by decide) (by decide) dX3_lay_67 ?_
              rw [show ((w : Int) / 2 ^ ((c : Int)).toNat) % 2 ^ 1 = ((w / 2 ^ c % 2 : Nat) : Int) from ibit]
              refine g_if_ne k (tgt := 146) (by omega) dX3_lay_68 (by decide) (fun c68 => ?_) (fun c68 => ?_)
              · skip
                refine g_iinc k (lv2 := [(0, .ref a), (1, .ref b), (2, vi (w : Int)), (3, vi p), (4, vi q), (5, vi ((c : Int) + 1))]) rfl (by decide) rfl rfl dX3_lay_146 ?_
                refine g_goto k (tgt := 53) dX3_lay_149 (by decide) ?_
                rw [show lyF φ w p q c = lyF φ w p q (c + 1) by rw [lyF, if_neg (by omega)]] at hm__3
                exact ih53 (c + 1) h53 ha__3 hm__3 hb__3 hbk__3 hbf__3 hbs__3 fr__3 (by omega) (by omega)
              · skip
                refine g_aload_n k rfl dX3_lay_71 ?_
                refine g_get k 0 3 (C := RX0) (T := TX0) (N := 5) fl_X3_52 rfl wi_X0 (by decide) rfl hb__3 rfl dX3_lay_72 ?_
                refine g_iload k rfl dX3_lay_75 ?_
                refine g_iald k c hbf__3 (by omega) (by omega) (by decide) dX3_lay_77 ?_
                rw [show F c = (fi φ c : Int) from hr.f (by omega)]
                refine g_bipush k rfl dX3_lay_78 ?_
                refine g_imul k dX3_lay_80 ?_
                refine g_aload_n k rfl dX3_lay_81 ?_
                refine g_get k 0 4 (C := RX0) (T := TX0) (N := 5) fl_X3_55 rfl wi_X0 (by decide) rfl hb__3 rfl dX3_lay_82 ?_
                refine g_iload k rfl dX3_lay_85 ?_
                refine g_iald k c hbs__3 (by omega) (by omega) (by decide) dX3_lay_87 ?_
                rw [show S c = (se φ c : Int) from hr.s (by omega)]
                refine g_iadd k dX3_lay_88 ?_
                refine g_istore k (lv2 := [(0, .ref a), (1, .ref b), (2, vi (w : Int)), (3, vi p), (4, vi q), (5, vi (c : Int)), (6, vi (((fi φ c : Int) * 8) + (se φ c : Int)))]) (by decide) rfl rfl dX3_lay_89 ?_
                refine g_aload_n k rfl dX3_lay_91 ?_
                refine g_get k 0 2 (C := RX0) (T := TX0) (N := 5) fl_X3_58 rfl wi_X0 (by decide) rfl hb__3 rfl dX3_lay_92 ?_
                refine g_iload k rfl dX3_lay_95 ?_
                refine g_iald k c hbk__3 (by omega) (by omega) (by decide) dX3_lay_97 ?_
                rw [show K c = (kd φ c : Int) from hr.t (by omega)]
                refine g_if_ne k (tgt := 112) (by omega) dX3_lay_98 (by decide) (fun c98 => ?_) (fun c98 => ?_)
                · skip
                  refine g_aload_n k rfl dX3_lay_112 ?_
                  refine g_get k 3 1 (C := RX3) (T := TX3) (N := 2) fl_X3_9 rfl wi_X3 (by decide) rfl ha__3 rfl dX3_lay_113 ?_
                  refine g_iload k rfl dX3_lay_116 ?_
                  refine g_iload k rfl dX3_lay_118 ?_
                  refine g_iast k (fi φ c * 8 + se φ c) hm__3 (by omega) (by omega) (by decide) dX3_lay_120 (fun h120 eh120 => ?_)
                  have ha__4 : h120 a = some (ob 3 [vi (it : Int), .ref (a + 1)]) := (congrFun eh120 _).trans ((hup_n (by omega)).trans ha__3)
                  have hm__4 : h120 (a + 1) = some (ai G 64 (fu (lyF φ w p q c) (fi φ c * 8 + se φ c) q)) := (congrFun eh120 _).trans hup_s
                  have hb__4 : h120 b = some (ob 0 [vi (it : Int), vi (φ.length : Int), .ref (b + 1), .ref (b + 2), .ref (b + 3)]) := (congrFun eh120 _).trans ((hup_n (by omega)).trans hb__3)
                  have hbk__4 : h120 (b + 1) = some (ai G 28 K) := (congrFun eh120 _).trans ((hup_n (by omega)).trans hbk__3)
                  have hbf__4 : h120 (b + 2) = some (ai G 28 F) := (congrFun eh120 _).trans ((hup_n (by omega)).trans hbf__3)
                  have hbs__4 : h120 (b + 3) = some (ai G 28 S) := (congrFun eh120 _).trans ((hup_n (by omega)).trans hbs__3)
                  have fr__4 : ∀ q : Nat, (q < a ∨ a + 1 < q) → h120 q = h q := fun q hq => (congrFun eh120 q).trans ((hup_n (by omega)).trans (fr__3 q hq))
                  refine g_aload_n k rfl dX3_lay_121 ?_
                  refine g_get k 3 1 (C := RX3) (T := TX3) (N := 2) fl_X3_9 rfl wi_X3 (by decide) rfl ha__4 rfl dX3_lay_122 ?_
                  refine g_aload_n k rfl dX3_lay_125 ?_
                  refine g_get k 0 4 (C := RX0) (T := TX0) (N := 5) fl_X3_55 rfl wi_X0 (by decide) rfl hb__4 rfl dX3_lay_126 ?_
                  refine g_iload k rfl dX3_lay_129 ?_
                  refine g_iald k c hbs__4 (by omega) (by omega) (by decide) dX3_lay_131 ?_
                  rw [show S c = (se φ c : Int) from hr.s (by omega)]
                  refine g_bipush k rfl dX3_lay_132 ?_
                  refine g_imul k dX3_lay_134 ?_
                  refine g_aload_n k rfl dX3_lay_135 ?_
                  refine g_get k 0 3 (C := RX0) (T := TX0) (N := 5) fl_X3_52 rfl wi_X0 (by decide) rfl hb__4 rfl dX3_lay_136 ?_
                  refine g_iload k rfl dX3_lay_139 ?_
                  refine g_iald k c hbf__4 (by omega) (by omega) (by decide) dX3_lay_141 ?_
                  rw [show F c = (fi φ c : Int) from hr.f (by omega)]
                  refine g_iadd k dX3_lay_142 ?_
                  refine g_iload k rfl dX3_lay_143 ?_
                  refine g_iast k (se φ c * 8 + fi φ c) hm__4 (by omega) (by omega) (by decide) dX3_lay_145 (fun h145 eh145 => ?_)
                  have ha__5 : h145 a = some (ob 3 [vi (it : Int), .ref (a + 1)]) := (congrFun eh145 _).trans ((hup_n (by omega)).trans ha__4)
                  have hm__5 : h145 (a + 1) = some (ai G 64 (fu (fu (lyF φ w p q c) (fi φ c * 8 + se φ c) q) (se φ c * 8 + fi φ c) q)) := (congrFun eh145 _).trans hup_s
                  have hb__5 : h145 b = some (ob 0 [vi (it : Int), vi (φ.length : Int), .ref (b + 1), .ref (b + 2), .ref (b + 3)]) := (congrFun eh145 _).trans ((hup_n (by omega)).trans hb__4)
                  have hbk__5 : h145 (b + 1) = some (ai G 28 K) := (congrFun eh145 _).trans ((hup_n (by omega)).trans hbk__4)
                  have hbf__5 : h145 (b + 2) = some (ai G 28 F) := (congrFun eh145 _).trans ((hup_n (by omega)).trans hbf__4)
                  have hbs__5 : h145 (b + 3) = some (ai G 28 S) := (congrFun eh145 _).trans ((hup_n (by omega)).trans hbs__4)
                  have fr__5 : ∀ q : Nat, (q < a ∨ a + 1 < q) → h145 q = h q := fun q hq => (congrFun eh145 q).trans ((hup_n (by omega)).trans (fr__4 q hq))
                  refine g_iinc k (lv2 := [(0, .ref a), (1, .ref b), (2, vi (w : Int)), (3, vi p), (4, vi q), (5, vi ((c : Int) + 1)), (6, vi (((fi φ c : Int) * 8) + (se φ c : Int)))]) rfl (by decide) rfl rfl dX3_lay_146 ?_
                  refine g_goto k (tgt := 53) dX3_lay_149 (by decide) ?_
                  refine g_less (lv2 := [(0, .ref a), (1, .ref b), (2, vi (w : Int)), (3, vi p), (4, vi q), (5, vi ((c : Int) + 1))]) ⟨rfl, rfl, rfl, rfl, rfl, rfl, trivial⟩ ?_
                  rw [show fu (fu (lyF φ w p q c) (fi φ c * 8 + se φ c) q) (se φ c * 8 + fi φ c) q = lyF φ w p q (c + 1) by rw [lyF, if_pos (by omega), if_neg (by omega)]] at hm__5
                  exact ih53 (c + 1) h145 ha__5 hm__5 hb__5 hbk__5 hbf__5 hbs__5 fr__5 (by omega) (by omega)
                · skip
                  refine g_aload_n k rfl dX3_lay_101 ?_
                  refine g_get k 3 1 (C := RX3) (T := TX3) (N := 2) fl_X3_9 rfl wi_X3 (by decide) rfl ha__3 rfl dX3_lay_102 ?_
                  refine g_iload k rfl dX3_lay_105 ?_
                  refine g_iload_n k rfl dX3_lay_107 ?_
                  refine g_iast k (fi φ c * 8 + se φ c) hm__3 (by omega) (by omega) (by decide) dX3_lay_108 (fun h108 eh108 => ?_)
                  have ha__6 : h108 a = some (ob 3 [vi (it : Int), .ref (a + 1)]) := (congrFun eh108 _).trans ((hup_n (by omega)).trans ha__3)
                  have hm__6 : h108 (a + 1) = some (ai G 64 (fu (lyF φ w p q c) (fi φ c * 8 + se φ c) p)) := (congrFun eh108 _).trans hup_s
                  have hb__6 : h108 b = some (ob 0 [vi (it : Int), vi (φ.length : Int), .ref (b + 1), .ref (b + 2), .ref (b + 3)]) := (congrFun eh108 _).trans ((hup_n (by omega)).trans hb__3)
                  have hbk__6 : h108 (b + 1) = some (ai G 28 K) := (congrFun eh108 _).trans ((hup_n (by omega)).trans hbk__3)
                  have hbf__6 : h108 (b + 2) = some (ai G 28 F) := (congrFun eh108 _).trans ((hup_n (by omega)).trans hbf__3)
                  have hbs__6 : h108 (b + 3) = some (ai G 28 S) := (congrFun eh108 _).trans ((hup_n (by omega)).trans hbs__3)
                  have fr__6 : ∀ q : Nat, (q < a ∨ a + 1 < q) → h108 q = h q := fun q hq => (congrFun eh108 q).trans ((hup_n (by omega)).trans (fr__3 q hq))
                  refine g_goto k (tgt := 146) dX3_lay_109 (by decide) ?_
                  refine g_iinc k (lv2 := [(0, .ref a), (1, .ref b), (2, vi (w : Int)), (3, vi p), (4, vi q), (5, vi ((c : Int) + 1)), (6, vi (((fi φ c : Int) * 8) + (se φ c : Int)))]) rfl (by decide) rfl rfl dX3_lay_146 ?_
                  refine g_goto k (tgt := 53) dX3_lay_149 (by decide) ?_
                  refine g_less (lv2 := [(0, .ref a), (1, .ref b), (2, vi (w : Int)), (3, vi p), (4, vi q), (5, vi ((c : Int) + 1))]) ⟨rfl, rfl, rfl, rfl, rfl, rfl, trivial⟩ ?_
                  rw [show fu (lyF φ w p q c) (fi φ c * 8 + se φ c) p = lyF φ w p q (c + 1) by rw [lyF, if_pos (by omega), if_pos (by omega)]] at hm__6
                  exact ih53 (c + 1) h108 ha__6 hm__6 hb__6 hbk__6 hbf__6 hbs__6 fr__6 (by omega) (by omega)
        exact K53 _ 0 h50c ha__2 hm__2 hb__2 hbk__2 hbf__2 hbs__2 fr__2 (Nat.zero_le _) (Nat.lt_succ_self _)
      · skip
        refine g_aload_n k rfl dX3_lay_18 ?_
        refine g_get k 3 1 (C := RX3) (T := TX3) (N := 2) fl_X3_9 rfl wi_X3 (by decide) rfl ha__1 rfl dX3_lay_19 ?_
        refine g_iload k rfl dX3_lay_22 ?_
        have K43 : ∀ (x : Int) (hx : x = lyB v), Go G X 7 QQ 0 0 nx 43 [(0, .ref a), (1, .ref b), (2, vi (w : Int)), (3, vi p), (4, vi q), (5, vi (v : Int))] [vi x, vi (v : Int), .ref (a + 1)] h11 := by
          intro x hx
          refine g_iast k v hm__1 (by omega) (by omega) (by decide) dX3_lay_43 (fun h43 eh43 => ?_)
          have ha__7 : h43 a = some (ob 3 [vi (it : Int), .ref (a + 1)]) := (congrFun eh43 _).trans ((hup_n (by omega)).trans ha__1)
          have hm__7 : h43 (a + 1) = some (ai G 64 (fu (fun j => if j < v then lyB j else M j) v x)) := (congrFun eh43 _).trans hup_s
          have hb__7 : h43 b = some (ob 0 [vi (it : Int), vi (φ.length : Int), .ref (b + 1), .ref (b + 2), .ref (b + 3)]) := (congrFun eh43 _).trans ((hup_n (by omega)).trans hb__1)
          have hbk__7 : h43 (b + 1) = some (ai G 28 K) := (congrFun eh43 _).trans ((hup_n (by omega)).trans hbk__1)
          have hbf__7 : h43 (b + 2) = some (ai G 28 F) := (congrFun eh43 _).trans ((hup_n (by omega)).trans hbf__1)
          have hbs__7 : h43 (b + 3) = some (ai G 28 S) := (congrFun eh43 _).trans ((hup_n (by omega)).trans hbs__1)
          have fr__7 : ∀ q : Nat, (q < a ∨ a + 1 < q) → h43 q = h q := fun q hq => (congrFun eh43 q).trans ((hup_n (by omega)).trans (fr__1 q hq))
          refine g_iinc k (lv2 := [(0, .ref a), (1, .ref b), (2, vi (w : Int)), (3, vi p), (4, vi q), (5, vi ((v : Int) + 1))]) rfl (by decide) rfl rfl dX3_lay_44 ?_
          refine g_goto k (tgt := 11) dX3_lay_47 (by decide) ?_
          rw [show fu (fun j => if j < v then lyB j else M j) v x = (fun j => if j < v + 1 then lyB j else M j) by funext j; by_cases e : j = v; (subst e; rw [fu_s, if_pos (by omega), hx]); (rw [fu_n e]; by_cases e2 : j < v; (rw [if_pos e2, if_pos (by omega)]); rw [if_neg e2, if_neg (by omega)])] at hm__7
          exact ih11 (v + 1) h43 ha__7 hm__7 hb__7 hbk__7 hbf__7 hbs__7 fr__7 (by omega) (by omega)
        refine g_iload k rfl dX3_lay_24 ?_
        refine g_bipush k rfl dX3_lay_26 ?_
        refine g_idiv k (by omega) (by omega) dX3_lay_28 ?_
        refine g_iload k rfl dX3_lay_29 ?_
        refine g_bipush k rfl dX3_lay_31 ?_
        refine g_irem k (by omega) (by omega) dX3_lay_33 ?_
        refine g_icmp_ne k (tgt := 41) (by omega) (by omega) dX3_lay_34 (by decide) (fun c34 => ?_) (fun c34 => ?_)
        · skip
          refine g_ldc k (z := (-1000000000)) cn_X3_48 rfl dX3_lay_41 ?_
          exact K43 _ (by unfold lyB; split <;> omega)
        · skip
          refine g_iconst k dX3_lay_37 ?_
          refine g_goto k (tgt := 43) dX3_lay_38 (by decide) ?_
          exact K43 _ (by unfold lyB; split <;> omega)
  rw [show M = (fun j => if j < 0 then lyB j else M j) by funext j; rw [if_neg (by omega)]] at hm_
  exact K11 _ 0 h5 ha_ hm_ hb_ hbk_ hbf_ hbs_ fr_ (Nat.zero_le _) (Nat.lt_succ_self _)

def wgh (φ : Fs) (w it : Nat) : Nat → Int := clM (lyF φ w 1 (-1) φ.length) it it
def str (φ : Fs) (L : Int) (it : Nat) : Nat → Int := clM (lyF φ 0 L (1 - L) φ.length) it it
theorem FA.keep {G : Gx} {h h' : Hp} {b it : Nat} {φ : Fs} (hF : FA G h b it φ) (fr : ∀ q : Nat, b ≤ q → q ≤ b + 3 → h' q = h q) : FA G h' b it φ := by
  obtain ⟨K, F, S, h1, h2, h3, h4, hr⟩ := hF
  exact ⟨K, F, S, (fr _ (by omega) (by omega)).trans h1, (fr _ (by omega) (by omega)).trans h2, (fr _ (by omega) (by omega)).trans h3, (fr _ (by omega) (by omega)).trans h4, hr⟩
set_option maxHeartbeats 600000 in
set_option maxRecDepth 100000 in
theorem c_X3_weigh {G : Gx} {h : Hp} {nx a it : Nat} {M : Nat → Int} {it0 b : Nat} {φ : Fs} (hF : FA G h b it φ) (hS : Sm it φ) (hd : a + 1 < b ∨ b + 3 < a) (hM : RA G h a it0 M) {w : Nat} (hw : w < 268435456) : Con G yX3_weigh cX3_weigh 3 none 3 0 0 [.ref a, .ref b, vi (w : Int)] h nx (PV fun h' => RA G h' a it (wgh φ w it) ∧ ∀ q : Nat, (q < a ∨ a + 1 < q) → h' q = h q) := by
  obtain ⟨ha, hm⟩ := hM
  have hF0 := hF
  obtain ⟨K, F, S, hb, hbk, hbf, hbs, hr⟩ := hF
  have h8 := hS.1
  refine Con.of v_X3_weigh.2.2.2.2.2.1 (Nat.le_of_ble_eq_true rfl) (lv := [(0, .ref a), (1, .ref b), (2, vi (w : Int))]) rfl (fun X k => ?_)
  generalize hQQ : QM G X nx 0 0 _ = QQ
  have fr0 : ∀ q : Nat, (q < a ∨ a + 1 < q) → h q = h q := fun _ _ => rfl
  refine g_aload_n k rfl dX3_weigh_0 ?_
  refine g_aload_n k rfl dX3_weigh_1 ?_
  refine g_iload_n k rfl dX3_weigh_2 ?_
  refine g_iconst k dX3_weigh_3 ?_
  refine g_iconst k dX3_weigh_4 ?_
  refine g_cVv k 3 (As := [.ref b, vi (w : Int), vi 1, vi (-1)]) v_X3_lay rfl rfl ha ml_X3_25 (c_X3_lay hF0 hS hd ⟨ha, hm⟩ hw) (by omega) (by omega) rfl (Nat.le_of_ble_eq_true rfl) rfl dX3_weigh_5 (fun h5 p5 => ?_)
  obtain ⟨⟨na, nm⟩, nfr⟩ := p5
  have ha_ : h5 a = some (ob 3 [vi (it : Int), .ref (a + 1)]) := na
  have hm_ : h5 (a + 1) = some (ai G 64 (lyF φ w 1 (-1) φ.length)) := nm
  have hb_ : h5 b = some (ob 0 [vi (it : Int), vi (φ.length : Int), .ref (b + 1), .ref (b + 2), .ref (b + 3)]) := (nfr _ (by omega)).trans hb
  have fr_ : ∀ q : Nat, (q < a ∨ a + 1 < q) → h5 q = h q := fun q hq => (nfr q (by omega)).trans (fr0 q hq)
  refine g_aload_n k rfl dX3_weigh_8 ?_
  refine g_cVv k 3 (As := []) v_X3_close rfl rfl ha_ ml_X3_29 (c_X3_close ⟨ha_, hm_⟩ h8 (lyF_bd (B := 1) (by omega) (by omega) (by omega) _) (by omega)) (by omega) (by omega) rfl (Nat.le_of_ble_eq_true rfl) rfl dX3_weigh_9 (fun h9 p9 => ?_)
  obtain ⟨⟨na, nm⟩, nfr⟩ := p9
  have ha__1 : h9 a = some (ob 3 [vi (it : Int), .ref (a + 1)]) := na
  have hm__1 : h9 (a + 1) = some (ai G 64 (wgh φ w it)) := nm
  have hb__1 : h9 b = some (ob 0 [vi (it : Int), vi (φ.length : Int), .ref (b + 1), .ref (b + 2), .ref (b + 3)]) := (nfr _ (by omega)).trans hb_
  have fr__1 : ∀ q : Nat, (q < a ∨ a + 1 < q) → h9 q = h q := fun q hq => (nfr q (by omega)).trans (fr_ q hq)
  rw [← hQQ]
  refine g_retv k rfl dX3_weigh_12 ?_
  exact ⟨⟨ha__1, hm__1⟩, fr__1⟩

set_option maxHeartbeats 600000 in
set_option maxRecDepth 100000 in
theorem c_X3_stretch {G : Gx} {h : Hp} {nx a it : Nat} {M : Nat → Int} {it0 b : Nat} {φ : Fs} (hF : FA G h b it φ) (hS : Sm it φ) (hd : a + 1 < b ∨ b + 3 < a) (hM : RA G h a it0 M) {L1 : Int} (hL : 1 ≤ L1 ∧ L1 ≤ 60) : Con G yX3_stretch cX3_stretch 4 (some .boolean) 3 0 0 [.ref a, .ref b, vi L1] h nx (PI fun z h' => bz (reS (str φ L1 it) it) z ∧ RA G h' a it (str φ L1 it) ∧ ∀ q : Nat, (q < a ∨ a + 1 < q) → h' q = h q) := by
  obtain ⟨ha, hm⟩ := hM
  have hF0 := hF
  obtain ⟨K, F, S, hb, hbk, hbf, hbs, hr⟩ := hF
  have h8 := hS.1
  refine Con.of v_X3_stretch.2.2.2.2.2.1 (Nat.le_of_ble_eq_true rfl) (lv := [(0, .ref a), (1, .ref b), (2, vi L1)]) rfl (fun X k => ?_)
  generalize hQQ : QM G X nx 0 0 _ = QQ
  have fr0 : ∀ q : Nat, (q < a ∨ a + 1 < q) → h q = h q := fun _ _ => rfl
  refine g_aload_n k rfl dX3_stretch_0 ?_
  refine g_aload_n k rfl dX3_stretch_1 ?_
  refine g_iconst k dX3_stretch_2 ?_
  refine g_iload_n k rfl dX3_stretch_3 ?_
  refine g_iconst k dX3_stretch_4 ?_
  refine g_iload_n k rfl dX3_stretch_5 ?_
  refine g_isub k dX3_stretch_6 ?_
  refine g_cVv k 3 (As := [.ref b, vi 0, vi L1, vi (1 - L1)]) v_X3_lay rfl rfl ha ml_X3_25 (c_X3_lay (w := 0) hF0 hS hd ⟨ha, hm⟩ (by omega)) (by omega) (by omega) rfl (Nat.le_of_ble_eq_true rfl) rfl dX3_stretch_7 (fun h7 p7 => ?_)
  obtain ⟨⟨na, nm⟩, nfr⟩ := p7
  have ha_ : h7 a = some (ob 3 [vi (it : Int), .ref (a + 1)]) := na
  have hm_ : h7 (a + 1) = some (ai G 64 (lyF φ 0 L1 (1 - L1) φ.length)) := nm
  have hb_ : h7 b = some (ob 0 [vi (it : Int), vi (φ.length : Int), .ref (b + 1), .ref (b + 2), .ref (b + 3)]) := (nfr _ (by omega)).trans hb
  have fr_ : ∀ q : Nat, (q < a ∨ a + 1 < q) → h7 q = h q := fun q hq => (nfr q (by omega)).trans (fr0 q hq)
  refine g_aload_n k rfl dX3_stretch_10 ?_
  refine g_cVv k 3 (As := []) v_X3_close rfl rfl ha_ ml_X3_29 (c_X3_close ⟨ha_, hm_⟩ h8 (lyF_bd (B := 60) (by omega) (by omega) (by omega) _) (by omega)) (by omega) (by omega) rfl (Nat.le_of_ble_eq_true rfl) rfl dX3_stretch_11 (fun h11 p11 => ?_)
  obtain ⟨⟨na, nm⟩, nfr⟩ := p11
  have ha__1 : h11 a = some (ob 3 [vi (it : Int), .ref (a + 1)]) := na
  have hm__1 : h11 (a + 1) = some (ai G 64 (str φ L1 it)) := nm
  have hb__1 : h11 b = some (ob 0 [vi (it : Int), vi (φ.length : Int), .ref (b + 1), .ref (b + 2), .ref (b + 3)]) := (nfr _ (by omega)).trans hb_
  have fr__1 : ∀ q : Nat, (q < a ∨ a + 1 < q) → h11 q = h q := fun q hq => (nfr q (by omega)).trans (fr_ q hq)
  have hbd := clM_bd (it := it) (lyF_bd (φ := φ) (w := 0) (p := L1) (q := 1 - L1) (B := 60) (by omega) (by omega) (by omega) φ.length) (by omega) it h8 h8
  have hpm := p28 (B := 60) (by omega) (by omega) h8
  have hbd : Bd (60 * 2 ^ it) (str φ L1 it) := hbd
  refine g_iconst k dX3_stretch_14 ?_
  refine g_istore_n k (lv2 := [(0, .ref a), (1, .ref b), (2, vi L1), (3, vi 0)]) (by decide) rfl rfl dX3_stretch_15 ?_
  have K16 : ∀ (nz : Nat) (v : Nat) (hv : v ≤ it) (hn : ∀ j, j < v → (str φ L1 it) (j * 8 + j) ≤ 0) (hmz : it - v < nz), Go G X 4 QQ 0 0 nx 16 [(0, .ref a), (1, .ref b), (2, vi L1), (3, vi (v : Int))] [] h11 := by
    intro nz
    induction nz with
    | zero => intro v hv hn hmz; exact absurd hmz (Nat.not_lt_zero _)
    | succ nz ih16 =>
      intro v hv hn hmz
      refine g_iload_n k rfl dX3_stretch_16 ?_
      refine g_aload_n k rfl dX3_stretch_17 ?_
      refine g_get k 3 0 (C := RX3) (T := TX3) (N := 2) fl_X3_15 rfl wi_X3 (by decide) rfl ha__1 rfl dX3_stretch_18 ?_
      refine g_icmp_ge k (tgt := 41) (by omega) (by omega) dX3_stretch_21 (by decide) (fun c21 => ?_) (fun c21 => ?_)
      · skip
        refine g_iconst k dX3_stretch_41 ?_
        rw [← hQQ]
        refine g_zreti k (by omega) rfl dX3_stretch_42 ?_
        exact ⟨bz.y (fun j hj => hn j (by omega)), ⟨ha__1, hm__1⟩, fr__1⟩
      · skip
        have b0 := hbd (v * 8 + v) (by omega)
        refine g_aload_n k rfl dX3_stretch_24 ?_
        refine g_iload_n k rfl dX3_stretch_25 ?_
        refine g_iload_n k rfl dX3_stretch_26 ?_
        refine g_cVi k 3 (As := [vi (v : Int), vi (v : Int)]) v_X3_between rfl rfl ha__1 ml_X3_32 (c_X3_between ⟨ha__1, hm__1⟩ (u := v) (v := v) (by omega) (by omega)) (by omega) (by omega) rfl (Nat.le_of_ble_eq_true rfl) rfl dX3_stretch_27 (fun r27 h27 p27 => ?_)
        obtain ⟨eh27, p27⟩ := p27
        have eh27 := eh27.symm; subst eh27
        subst p27
        refine g_if_le k (tgt := 35) (by omega) dX3_stretch_30 (by decide) (fun c30 => ?_) (fun c30 => ?_)
        · skip
          refine g_iinc k (lv2 := [(0, .ref a), (1, .ref b), (2, vi L1), (3, vi ((v : Int) + 1))]) rfl (by decide) rfl rfl dX3_stretch_35 ?_
          refine g_goto k (tgt := 16) dX3_stretch_38 (by decide) ?_
          exact ih16 (v + 1) (by omega) (lt_s2 hn (by omega)) (by omega)
        · skip
          refine g_iconst k dX3_stretch_33 ?_
          rw [← hQQ]
          refine g_zreti k (by omega) rfl dX3_stretch_34 ?_
          exact ⟨bz.n (fun q => by have := q v (by omega); omega), ⟨ha__1, hm__1⟩, fr__1⟩
  exact K16 _ 0 (Nat.zero_le _) (fun j hj => absurd hj (Nat.not_lt_zero j)) (Nat.lt_succ_self _)

/-- the greatest number to an item from the first n, none below 0 -/
def ely (M : Nat → Int) (i : Nat) : Nat → Int
  | 0 => 0
  | n + 1 => if ely M i n < M (n * 8 + i) then M (n * 8 + i) else ely M i n
theorem ely_bd {M : Nat → Int} {i : Nat} {B : Int} (hB : Bd B M) (h0 : 0 ≤ B) (hi : i < 8) : ∀ n, n ≤ 8 → 0 ≤ ely M i n ∧ ely M i n ≤ B
  | 0, _ => by unfold ely; omega
  | n + 1, hn => by
    have := ely_bd hB h0 hi n (by omega)
    have := hB (n * 8 + i) (by omega)
    unfold ely
    split <;> omega
def opt (M : Nat → Int) (x y : Nat) : Nat := (if M (y * 8 + x) + 1 < 0 then 1 else 0) + (if M (x * 8 + y) + 1 < 0 then 2 else 0) + (if M (x * 8 + y) - 1 < 0 ∧ M (y * 8 + x) - 1 < 0 then 4 else 0)
set_option maxHeartbeats 600000 in
set_option maxRecDepth 100000 in
theorem c_X3_earliest {G : Gx} {h : Hp} {nx a it : Nat} {M : Nat → Int} (hM : RA G h a it M) (h8 : it ≤ 8) {B : Int} (hB : Bd B M) (hB2 : 0 ≤ B ∧ B ≤ 100000000) {i1 : Nat} (hi : i1 < 8) : Con G yX3_earliest cX3_earliest 4 (some .int) 2 0 0 [.ref a, vi (i1 : Int)] h nx (PI fun z h' => h' = h ∧ z = ely M i1 it) := by
  obtain ⟨ha, hm⟩ := hM
  refine Con.of v_X3_earliest.2.2.2.2.2.1 (Nat.le_of_ble_eq_true rfl) (lv := [(0, .ref a), (1, vi (i1 : Int))]) rfl (fun X k => ?_)
  generalize hQQ : QM G X nx 0 0 _ = QQ
  refine g_iconst k dX3_earliest_0 ?_
  refine g_istore_n k (lv2 := [(0, .ref a), (1, vi (i1 : Int)), (2, vi 0)]) (by decide) rfl rfl dX3_earliest_1 ?_
  refine g_iconst k dX3_earliest_2 ?_
  refine g_istore_n k (lv2 := [(0, .ref a), (1, vi (i1 : Int)), (2, vi 0), (3, vi 0)]) (by decide) rfl rfl dX3_earliest_3 ?_
  have K4 : ∀ (nz : Nat) (v : Nat) (hv : v ≤ it) (hmz : it - v < nz), Go G X 4 QQ 0 0 nx 4 [(0, .ref a), (1, vi (i1 : Int)), (2, vi (ely M i1 v)), (3, vi (v : Int))] [] h := by
    intro nz
    induction nz with
    | zero => intro v hv hmz; exact absurd hmz (Nat.not_lt_zero _)
    | succ nz ih4 =>
      intro v hv hmz
      refine g_iload_n k rfl dX3_earliest_4 ?_
      refine g_aload_n k rfl dX3_earliest_5 ?_
      refine g_get k 3 0 (C := RX3) (T := TX3) (N := 2) fl_X3_15 rfl wi_X3 (by decide) rfl ha rfl dX3_earliest_6 ?_
      refine g_icmp_ge k (tgt := 29) (by omega) (by omega) dX3_earliest_9 (by decide) (fun c9 => ?_) (fun c9 => ?_)
      · skip
        refine g_iload_n k rfl dX3_earliest_29 ?_
        rw [← hQQ]
        refine g_ireti k rfl dX3_earliest_30 ?_
        have e : v = it := by omega
        subst e
        exact ⟨rfl, rfl⟩
      · skip
        have b0 := hB (v * 8 + i1) (by omega)
        have b1 := ely_bd hB hB2.1 hi v (by omega)
        refine g_iload_n k rfl dX3_earliest_12 ?_
        refine g_aload_n k rfl dX3_earliest_13 ?_
        refine g_iload_n k rfl dX3_earliest_14 ?_
        refine g_iload_n k rfl dX3_earliest_15 ?_
        refine g_cVi k 3 (As := [vi (v : Int), vi (i1 : Int)]) v_X3_between rfl rfl ha ml_X3_32 (c_X3_between ⟨ha, hm⟩ (u := v) (v := i1) (by omega) (by omega)) (by omega) (by omega) rfl (Nat.le_of_ble_eq_true rfl) rfl dX3_earliest_16 (fun r16 h16 p16 => ?_)
        obtain ⟨eh16, p16⟩ := p16
        have eh16 := eh16.symm; subst eh16
        subst p16
        refine g_max k (by omega) (by omega) ml_X3_36 st_max cd_max (by omega) (by omega) (Nat.le_of_ble_eq_true rfl) dX3_earliest_19 ?_
        refine g_istore_n k (lv2 := [(0, .ref a), (1, vi (i1 : Int)), (2, vi (if (ely M i1 v) < (M (v * 8 + i1)) then (M (v * 8 + i1)) else (ely M i1 v))), (3, vi (v : Int))]) (by decide) rfl rfl dX3_earliest_22 ?_
        refine g_iinc k (lv2 := [(0, .ref a), (1, vi (i1 : Int)), (2, vi (if (ely M i1 v) < (M (v * 8 + i1)) then (M (v * 8 + i1)) else (ely M i1 v))), (3, vi ((v : Int) + 1))]) rfl (by decide) rfl rfl dX3_earliest_23 ?_
        refine g_goto k (tgt := 4) dX3_earliest_26 (by decide) ?_
        exact ih4 (v + 1) (by omega) (by omega)
  exact K4 _ 0 (Nat.zero_le _) (Nat.lt_succ_self _)

set_option maxHeartbeats 600000 in
set_option maxRecDepth 100000 in
theorem c_X3_options {G : Gx} {h : Hp} {nx a it : Nat} {M : Nat → Int} (hM : RA G h a it M) {B : Int} (hB : Bd B M) (hB2 : 0 ≤ B ∧ B ≤ 100000000) {x y : Nat} (hx : x < 8) (hy : y < 8) : Con G yX3_options cX3_options 6 (some .int) 2 0 0 [.ref a, vi (x : Int), vi (y : Int)] h nx (PI fun z h' => h' = h ∧ z = (opt M x y : Nat)) := by
  obtain ⟨ha, hm⟩ := hM
  have b0 := hB (x * 8 + y) (by omega)
  have b1 := hB (y * 8 + x) (by omega)
  refine Con.of v_X3_options.2.2.2.2.2.1 (Nat.le_of_ble_eq_true rfl) (lv := [(0, .ref a), (1, vi (x : Int)), (2, vi (y : Int))]) rfl (fun X k => ?_)
  generalize hQQ : QM G X nx 0 0 _ = QQ
  refine g_aload_n k rfl dX3_options_0 ?_
  refine g_iload_n k rfl dX3_options_1 ?_
  refine g_iload_n k rfl dX3_options_2 ?_
  refine g_cVi k 3 (As := [vi (x : Int), vi (y : Int)]) v_X3_between rfl rfl ha ml_X3_32 (c_X3_between ⟨ha, hm⟩ (u := x) (v := y) (by omega) (by omega)) (by omega) (by omega) rfl (Nat.le_of_ble_eq_true rfl) rfl dX3_options_3 (fun r3 h3 p3 => ?_)
  obtain ⟨eh3, p3⟩ := p3
  have eh3 := eh3.symm; subst eh3
  subst p3
  refine g_istore_n k (lv2 := [(0, .ref a), (1, vi (x : Int)), (2, vi (y : Int)), (3, vi (M (x * 8 + y)))]) (by decide) rfl rfl dX3_options_6 ?_
  refine g_aload_n k rfl dX3_options_7 ?_
  refine g_iload_n k rfl dX3_options_8 ?_
  refine g_iload_n k rfl dX3_options_9 ?_
  refine g_cVi k 3 (As := [vi (y : Int), vi (x : Int)]) v_X3_between rfl rfl ha ml_X3_32 (c_X3_between ⟨ha, hm⟩ (u := y) (v := x) (by omega) (by omega)) (by omega) (by omega) rfl (Nat.le_of_ble_eq_true rfl) rfl dX3_options_10 (fun r10 h10 p10 => ?_)
  obtain ⟨eh10, p10⟩ := p10
  have eh10 := eh10.symm; subst eh10
  subst p10
  refine g_istore k (lv2 := [(0, .ref a), (1, vi (x : Int)), (2, vi (y : Int)), (3, vi (M (x * 8 + y))), (4, vi (M (y * 8 + x)))]) (by decide) rfl rfl dX3_options_13 ?_
  refine g_iconst k dX3_options_15 ?_
  refine g_istore k (lv2 := [(0, .ref a), (1, vi (x : Int)), (2, vi (y : Int)), (3, vi (M (x * 8 + y))), (4, vi (M (y * 8 + x))), (5, vi 0)]) (by decide) rfl rfl dX3_options_16 ?_
  have K31 : ∀ (c1 : Nat) (hc1 : c1 = if M (y * 8 + x) + 1 < 0 then 1 else 0), Go G X 6 QQ 0 0 nx 31 [(0, .ref a), (1, vi (x : Int)), (2, vi (y : Int)), (3, vi (M (x * 8 + y))), (4, vi (M (y * 8 + x))), (5, vi (c1 : Int))] [] h := by
    intro c1 hc1
    have k1 : c1 ≤ 1 := by rw [hc1]; split <;> omega
    have K43 : ∀ (c2 : Nat) (hc2 : c2 = c1 + if M (x * 8 + y) + 1 < 0 then 2 else 0), Go G X 6 QQ 0 0 nx 43 [(0, .ref a), (1, vi (x : Int)), (2, vi (y : Int)), (3, vi (M (x * 8 + y))), (4, vi (M (y * 8 + x))), (5, vi (c2 : Int))] [] h := by
      intro c2 hc2
      have k2 : c2 ≤ 3 := by rw [hc2]; split <;> omega
      have K62 : ∀ (c3 : Nat) (hc3 : c3 = opt M x y), Go G X 6 QQ 0 0 nx 62 [(0, .ref a), (1, vi (x : Int)), (2, vi (y : Int)), (3, vi (M (x * 8 + y))), (4, vi (M (y * 8 + x))), (5, vi (c3 : Int))] [] h := by
        intro c3 hc3
        refine g_iload k rfl dX3_options_62 ?_
        rw [← hQQ]
        refine g_ireti k rfl dX3_options_64 ?_
        exact ⟨rfl, by rw [hc3]⟩
      refine g_iload_n k rfl dX3_options_43 ?_
      refine g_iconst k dX3_options_44 ?_
      refine g_isub k dX3_options_45 ?_
      refine g_if_ge k (tgt := 62) (by omega) dX3_options_46 (by decide) (fun c46 => ?_) (fun c46 => ?_)
      · skip
        exact K62 c2 (by unfold opt; rw [if_neg (show ¬ (M (x * 8 + y) - 1 < 0 ∧ M (y * 8 + x) - 1 < 0) by omega), hc2, hc1]; rfl)
      · skip
        refine g_iload k rfl dX3_options_49 ?_
        refine g_iconst k dX3_options_51 ?_
        refine g_isub k dX3_options_52 ?_
        refine g_if_ge k (tgt := 62) (by omega) dX3_options_53 (by decide) (fun c53 => ?_) (fun c53 => ?_)
        · skip
          exact K62 c2 (by unfold opt; rw [if_neg (show ¬ (M (x * 8 + y) - 1 < 0 ∧ M (y * 8 + x) - 1 < 0) by omega), hc2, hc1]; rfl)
        · skip
          refine g_iload k rfl dX3_options_56 ?_
          refine g_iconst k dX3_options_58 ?_
          refine g_ior k (a := c2) (b := 4) (by omega) (by omega) dX3_options_59 ?_
          refine g_istore k (lv2 := [(0, .ref a), (1, vi (x : Int)), (2, vi (y : Int)), (3, vi (M (x * 8 + y))), (4, vi (M (y * 8 + x))), (5, vi ((c2 ||| 4 : Nat) : Int))]) (by decide) rfl rfl dX3_options_60 ?_
          exact K62 (c2 ||| 4) (by unfold opt; rw [if_pos (show M (x * 8 + y) - 1 < 0 ∧ M (y * 8 + x) - 1 < 0 by omega), hc2, hc1]; split <;> split <;> rfl)
    refine g_iload_n k rfl dX3_options_31 ?_
    refine g_iconst k dX3_options_32 ?_
    refine g_iadd k dX3_options_33 ?_
    refine g_if_ge k (tgt := 43) (by omega) dX3_options_34 (by decide) (fun c34 => ?_) (fun c34 => ?_)
    · skip
      exact K43 c1 (by rw [if_neg (by omega)]; rfl)
    · skip
      refine g_iload k rfl dX3_options_37 ?_
      refine g_iconst k dX3_options_39 ?_
      refine g_ior k (a := c1) (b := 2) (by omega) (by omega) dX3_options_40 ?_
      refine g_istore k (lv2 := [(0, .ref a), (1, vi (x : Int)), (2, vi (y : Int)), (3, vi (M (x * 8 + y))), (4, vi (M (y * 8 + x))), (5, vi ((c1 ||| 2 : Nat) : Int))]) (by decide) rfl rfl dX3_options_41 ?_
      exact K43 (c1 ||| 2) (by rw [if_pos (by omega), hc1]; split <;> rfl)
  refine g_iload k rfl dX3_options_18 ?_
  refine g_iconst k dX3_options_20 ?_
  refine g_iadd k dX3_options_21 ?_
  refine g_if_ge k (tgt := 31) (by omega) dX3_options_22 (by decide) (fun c22 => ?_) (fun c22 => ?_)
  · skip
    exact K31 0 (by rw [if_neg (by omega)])
  · skip
    refine g_iload k rfl dX3_options_25 ?_
    refine g_iconst k dX3_options_27 ?_
    refine g_ior k (a := 0) (b := 1) (by omega) (by omega) dX3_options_28 ?_
    refine g_istore k (lv2 := [(0, .ref a), (1, vi (x : Int)), (2, vi (y : Int)), (3, vi (M (x * 8 + y))), (4, vi (M (y * 8 + x))), (5, vi ((0 ||| 1 : Nat) : Int))]) (by decide) rfl rfl dX3_options_29 ?_
    exact K31 1 (by rw [if_pos (by omega)])

