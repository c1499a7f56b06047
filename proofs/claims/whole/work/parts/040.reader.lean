/-! the reader -/
def isLt (z : Int) : Prop := 97 ≤ z ∧ z ≤ 122
def isB (z : Int) : Prop := z = 32 ∨ z = 10
def RDC (G : Gx) (h : Hp) (a : Nat) (ft fp lm pl nt tk wd : Int) (NM : Nat → Int) (t r : Nat) : Prop := h a = some (ob 4 [vi ft, .ref (a + 1), vi fp, vi lm, vi pl, vi nt, vi tk, vl wd, .ref (a + 5), .ref t, .ref r]) ∧ h (a + 5) = some (al G 8 NM)
def Byt (T : Nat → Int) : Prop := ∀ j, 0 ≤ T j ∧ T j ≤ 255
noncomputable def leF (T : Nat → Int) : Nat → Nat → Nat
  | 0, p => p
  | k + 1, p => haveI := Classical.propDecidable (isLt (T p)); if isLt (T p) then leF T k (p + 1) else p
noncomputable def skF (T : Nat → Int) : Nat → Nat → Nat
  | 0, p => p
  | k + 1, p => haveI := Classical.propDecidable (isB (T p)); if isB (T p) then skF T k (p + 1) else p
def wdF (T : Nat → Int) (p : Nat) : Nat → Int
  | 0 => 0
  | k + 1 => wdF T p k * 32 + (T (p + k) - 97 + 1)
theorem leF_b {T : Nat → Int} : ∀ k p, p ≤ leF T k p ∧ leF T k p ≤ p + k
  | 0, p => ⟨Nat.le_refl p, Nat.le_refl p⟩
  | k + 1, p => by
    unfold leF
    split
    · have := leF_b (T := T) k (p + 1); omega
    · omega
theorem skF_b {T : Nat → Int} : ∀ k p, p ≤ skF T k p ∧ skF T k p ≤ p + k
  | 0, p => ⟨Nat.le_refl p, Nat.le_refl p⟩
  | k + 1, p => by
    unfold skF
    split
    · have := skF_b (T := T) k (p + 1); omega
    · omega
/-- a step: token, place, next, word -/
noncomputable def stF (T : Nat → Int) (n lm nt : Nat) (wd : Int) : Nat × Nat × Nat × Int :=
  haveI := Classical.propDecidable (isLt (T (skF T (lm - nt) nt)))
  if lm ≤ skF T (lm - nt) nt then (0, lm, skF T (lm - nt) nt, wd)
  else if isLt (T (skF T (lm - nt) nt)) then ((if leF T (n - skF T (lm - nt) nt) (skF T (lm - nt) nt) - skF T (lm - nt) nt ≤ 7 then 1 else 3), skF T (lm - nt) nt, leF T (n - skF T (lm - nt) nt) (skF T (lm - nt) nt), wdF T (skF T (lm - nt) nt) (leF T (n - skF T (lm - nt) nt) (skF T (lm - nt) nt) - skF T (lm - nt) nt))
  else ((if T (skF T (lm - nt) nt) = 59 then 2 else 3), skF T (lm - nt) nt, skF T (lm - nt) nt + 1, wd)
set_option maxHeartbeats 600000 in
set_option maxRecDepth 100000 in
theorem c_X4_isBlank {G : Gx} {h : Hp} {nx : Nat} {z0 : Int} (hz : 0 ≤ z0 ∧ z0 ≤ 255) : Con G yX4_isBlank cX4_isBlank 1 (some .boolean) 1 0 0 [vi z0] h nx (PI fun z h' => h' = h ∧ bz (isB z0) z) := by
  refine Con.of v_X4_isBlank.2.2.2.2.1 (Nat.le_of_ble_eq_true rfl) (lv := [(0, vi z0)]) rfl (fun X k => ?_)
  generalize hQQ : QM G X nx 0 0 _ = QQ
  refine g_iload_n k rfl dX4_isBlank_0 ?_
  refine g_bipush k rfl dX4_isBlank_1 ?_
  refine g_icmp_eq k (tgt := 12) (by omega) (by omega) dX4_isBlank_3 (by decide) (fun c3 => ?_) (fun c3 => ?_)
  · skip
    refine g_iconst k dX4_isBlank_12 ?_
    refine g_goto k (tgt := 17) dX4_isBlank_13 (by decide) ?_
    rw [← hQQ]
    refine g_zreti k (by omega) rfl dX4_isBlank_17 ?_
    exact ⟨rfl, bz.y (by unfold isB; omega)⟩
  · skip
    refine g_iload_n k rfl dX4_isBlank_6 ?_
    refine g_bipush k rfl dX4_isBlank_7 ?_
    refine g_icmp_ne k (tgt := 16) (by omega) (by omega) dX4_isBlank_9 (by decide) (fun c9 => ?_) (fun c9 => ?_)
    · skip
      refine g_iconst k dX4_isBlank_16 ?_
      rw [← hQQ]
      refine g_zreti k (by omega) rfl dX4_isBlank_17 ?_
      exact ⟨rfl, bz.n (by unfold isB; omega)⟩
    · skip
      refine g_iconst k dX4_isBlank_12 ?_
      refine g_goto k (tgt := 17) dX4_isBlank_13 (by decide) ?_
      rw [← hQQ]
      refine g_zreti k (by omega) rfl dX4_isBlank_17 ?_
      exact ⟨rfl, bz.y (by unfold isB; omega)⟩

set_option maxHeartbeats 600000 in
set_option maxRecDepth 100000 in
theorem c_X4_isLetter {G : Gx} {h : Hp} {nx : Nat} {z0 : Int} (hz : 0 ≤ z0 ∧ z0 ≤ 255) : Con G yX4_isLetter cX4_isLetter 1 (some .boolean) 1 0 0 [vi z0] h nx (PI fun z h' => h' = h ∧ bz (isLt z0) z) := by
  refine Con.of v_X4_isLetter.2.2.2.2.1 (Nat.le_of_ble_eq_true rfl) (lv := [(0, vi z0)]) rfl (fun X k => ?_)
  generalize hQQ : QM G X nx 0 0 _ = QQ
  refine g_iload_n k rfl dX4_isLetter_0 ?_
  refine g_bipush k rfl dX4_isLetter_1 ?_
  refine g_icmp_lt k (tgt := 16) (by omega) (by omega) dX4_isLetter_3 (by decide) (fun c3 => ?_) (fun c3 => ?_)
  · skip
    refine g_iconst k dX4_isLetter_16 ?_
    rw [← hQQ]
    refine g_zreti k (by omega) rfl dX4_isLetter_17 ?_
    exact ⟨rfl, bz.n (by unfold isLt; omega)⟩
  · skip
    refine g_iload_n k rfl dX4_isLetter_6 ?_
    refine g_bipush k rfl dX4_isLetter_7 ?_
    refine g_icmp_gt k (tgt := 16) (by omega) (by omega) dX4_isLetter_9 (by decide) (fun c9 => ?_) (fun c9 => ?_)
    · skip
      refine g_iconst k dX4_isLetter_16 ?_
      rw [← hQQ]
      refine g_zreti k (by omega) rfl dX4_isLetter_17 ?_
      exact ⟨rfl, bz.n (by unfold isLt; omega)⟩
    · skip
      refine g_iconst k dX4_isLetter_12 ?_
      refine g_goto k (tgt := 17) dX4_isLetter_13 (by decide) ?_
      rw [← hQQ]
      refine g_zreti k (by omega) rfl dX4_isLetter_17 ?_
      exact ⟨rfl, bz.y (by unfold isLt; omega)⟩

set_option maxHeartbeats 600000 in
set_option maxRecDepth 100000 in
theorem c_X4_fail {G : Gx} {h : Hp} {nx a t r : Nat} {ft fp lm pl nt tk wd : Int} {NM : Nat → Int} (hA : RDC G h a ft fp lm pl nt tk wd NM t r) {x y : Int} : Con G yX4_fail cX4_fail 3 (some .boolean) 1 0 0 [.ref a, vi x, vi y] h nx (PI fun z h' => z = 0 ∧ RDC G h' a x y lm pl nt tk wd NM t r ∧ ∀ q : Nat, (q < a ∨ a < q) → h' q = h q) := by
  obtain ⟨ha, hn⟩ := hA
  refine Con.of v_X4_fail.2.2.2.2.2.1 (Nat.le_of_ble_eq_true rfl) (lv := [(0, .ref a), (1, vi x), (2, vi y)]) rfl (fun X k => ?_)
  generalize hQQ : QM G X nx 0 0 _ = QQ
  have fr0 : ∀ q : Nat, (q < a ∨ a < q) → h q = h q := fun _ _ => rfl
  refine g_aload_n k rfl dX4_fail_0 ?_
  refine g_iload_n k rfl dX4_fail_1 ?_
  refine g_put k 4 0 (C := RX4) (T := TX4) (N := 11) fl_X4_30 rfl wi_X4 tyX4 tyX4_ok nmX4 (by decide) rfl rfl rfl rfl ha (Nat.le_of_ble_eq_true rfl) (fs2 := [vi x, .ref (a + 1), vi fp, vi lm, vi pl, vi nt, vi tk, vl wd, .ref (a + 5), .ref t, .ref r]) rfl rfl dX4_fail_2 (fun h2 eh2 => ?_)
  have ha_ : h2 a = some (ob 4 [vi x, .ref (a + 1), vi fp, vi lm, vi pl, vi nt, vi tk, vl wd, .ref (a + 5), .ref t, .ref r]) := (congrFun eh2 _).trans hup_s
  have hn_ : h2 (a + 5) = some (al G 8 NM) := (congrFun eh2 _).trans ((hup_n (by omega)).trans hn)
  have fr_ : ∀ q : Nat, (q < a ∨ a < q) → h2 q = h q := fun q hq => (congrFun eh2 q).trans ((hup_n (by omega)).trans (fr0 q hq))
  refine g_aload_n k rfl dX4_fail_5 ?_
  refine g_iload_n k rfl dX4_fail_6 ?_
  refine g_put k 4 2 (C := RX4) (T := TX4) (N := 11) fl_X4_74 rfl wi_X4 tyX4 tyX4_ok nmX4 (by decide) rfl rfl rfl rfl ha_ (Nat.le_of_ble_eq_true rfl) (fs2 := [vi x, .ref (a + 1), vi y, vi lm, vi pl, vi nt, vi tk, vl wd, .ref (a + 5), .ref t, .ref r]) rfl rfl dX4_fail_7 (fun h7 eh7 => ?_)
  have ha__1 : h7 a = some (ob 4 [vi x, .ref (a + 1), vi y, vi lm, vi pl, vi nt, vi tk, vl wd, .ref (a + 5), .ref t, .ref r]) := (congrFun eh7 _).trans hup_s
  have hn__1 : h7 (a + 5) = some (al G 8 NM) := (congrFun eh7 _).trans ((hup_n (by omega)).trans hn_)
  have fr__1 : ∀ q : Nat, (q < a ∨ a < q) → h7 q = h q := fun q hq => (congrFun eh7 q).trans ((hup_n (by omega)).trans (fr_ q hq))
  refine g_iconst k dX4_fail_10 ?_
  rw [← hQQ]
  refine g_zreti k (by omega) rfl dX4_fail_11 ?_
  exact ⟨rfl, ⟨ha__1, hn__1⟩, fr__1⟩

def isNm (tk wd : Int) : Prop := tk = 1 ∧ ¬ wd = 315565 ∧ ¬ wd = 72564293 ∧ ¬ wd = 72983685
theorem lc0 {a b : Int} : (if b < a then (1 : Int) else if a = b then 0 else -1) = 0 ↔ a = b := by split <;> (try split) <;> omega
theorem lcr {a b : Int} : -1 ≤ (if b < a then (1 : Int) else if a = b then 0 else -1) ∧ (if b < a then (1 : Int) else if a = b then 0 else -1) ≤ 1 := by split <;> (try split) <;> omega
set_option maxHeartbeats 600000 in
set_option maxRecDepth 100000 in
theorem c_X4_isItemRow {G : Gx} {h : Hp} {nx a t r : Nat} {ft fp lm pl nt tk wd : Int} {NM : Nat → Int} (hA : RDC G h a ft fp lm pl nt tk wd NM t r) (hw : tk = 1 → 0 ≤ wd ∧ wd < 34359738368) (htk : 0 ≤ tk ∧ tk ≤ 3) : Con G yX4_isItemRow cX4_isItemRow 1 (some .boolean) 1 0 0 [.ref a] h nx (PI fun z h' => h' = h ∧ bz (tk = 1 ∧ wd = 315565) z) := by
  obtain ⟨ha, hn⟩ := hA
  refine Con.of v_X4_isItemRow.2.2.2.2.2.1 (Nat.le_of_ble_eq_true rfl) (lv := [(0, .ref a)]) rfl (fun X k => ?_)
  generalize hQQ : QM G X nx 0 0 _ = QQ
  refine g_aload_n k rfl dX4_isItemRow_0 ?_
  refine g_get k 4 6 (C := RX4) (T := TX4) (N := 11) fl_X4_57 rfl wi_X4 (by decide) rfl ha rfl dX4_isItemRow_1 ?_
  refine g_iconst k dX4_isItemRow_4 ?_
  refine g_icmp_ne k (tgt := 23) (by omega) (by omega) dX4_isItemRow_5 (by decide) (fun c5 => ?_) (fun c5 => ?_)
  · skip
    refine g_iconst k dX4_isItemRow_23 ?_
    rw [← hQQ]
    refine g_zreti k (by omega) rfl dX4_isItemRow_24 ?_
    exact ⟨rfl, bz.n (by omega)⟩
  · skip
    have hw := hw (by omega)
    refine g_aload_n k rfl dX4_isItemRow_8 ?_
    refine g_get k 4 7 (C := RX4) (T := TX4) (N := 11) fl_X4_77 rfl wi_X4 (by decide) rfl ha rfl dX4_isItemRow_9 ?_
    refine g_ldc2 k (z := 315565) cn_X4_81 rfl dX4_isItemRow_12 ?_
    refine g_lcmp k (by omega) (by omega) dX4_isItemRow_15 ?_
    have l15 := @lc0 wd 315565
    have m15 := @lcr wd 315565
    refine g_if_ne k (tgt := 23) (by omega) dX4_isItemRow_16 (by decide) (fun c16 => ?_) (fun c16 => ?_)
    · skip
      refine g_iconst k dX4_isItemRow_23 ?_
      rw [← hQQ]
      refine g_zreti k (by omega) rfl dX4_isItemRow_24 ?_
      exact ⟨rfl, bz.n (by omega)⟩
    · skip
      refine g_iconst k dX4_isItemRow_19 ?_
      refine g_goto k (tgt := 24) dX4_isItemRow_20 (by decide) ?_
      rw [← hQQ]
      refine g_zreti k (by omega) rfl dX4_isItemRow_24 ?_
      exact ⟨rfl, bz.y (by omega)⟩

set_option maxHeartbeats 600000 in
set_option maxRecDepth 100000 in
theorem c_X4_isName {G : Gx} {h : Hp} {nx a t r : Nat} {ft fp lm pl nt tk wd : Int} {NM : Nat → Int} (hA : RDC G h a ft fp lm pl nt tk wd NM t r) (hw : tk = 1 → 0 ≤ wd ∧ wd < 34359738368) (htk : 0 ≤ tk ∧ tk ≤ 3) : Con G yX4_isName cX4_isName 1 (some .boolean) 1 0 0 [.ref a] h nx (PI fun z h' => h' = h ∧ bz (isNm tk wd) z) := by
  obtain ⟨ha, hn⟩ := hA
  refine Con.of v_X4_isName.2.2.2.2.2.1 (Nat.le_of_ble_eq_true rfl) (lv := [(0, .ref a)]) rfl (fun X k => ?_)
  generalize hQQ : QM G X nx 0 0 _ = QQ
  refine g_aload_n k rfl dX4_isName_0 ?_
  refine g_get k 4 6 (C := RX4) (T := TX4) (N := 11) fl_X4_57 rfl wi_X4 (by decide) rfl ha rfl dX4_isName_1 ?_
  refine g_iconst k dX4_isName_4 ?_
  refine g_icmp_ne k (tgt := 45) (by omega) (by omega) dX4_isName_5 (by decide) (fun c5 => ?_) (fun c5 => ?_)
  · skip
    refine g_iconst k dX4_isName_45 ?_
    rw [← hQQ]
    refine g_zreti k (by omega) rfl dX4_isName_46 ?_
    exact ⟨rfl, bz.n (by unfold isNm; omega)⟩
  · skip
    have hw := hw (by omega)
    refine g_aload_n k rfl dX4_isName_8 ?_
    refine g_get k 4 7 (C := RX4) (T := TX4) (N := 11) fl_X4_77 rfl wi_X4 (by decide) rfl ha rfl dX4_isName_9 ?_
    refine g_ldc2 k (z := 315565) cn_X4_81 rfl dX4_isName_12 ?_
    refine g_lcmp k (by omega) (by omega) dX4_isName_15 ?_
    have l15 := @lc0 wd 315565
    have m15 := @lcr wd 315565
    refine g_if_eq k (tgt := 45) (by omega) dX4_isName_16 (by decide) (fun c16 => ?_) (fun c16 => ?_)
    · skip
      refine g_iconst k dX4_isName_45 ?_
      rw [← hQQ]
      refine g_zreti k (by omega) rfl dX4_isName_46 ?_
      exact ⟨rfl, bz.n (by unfold isNm; omega)⟩
    · skip
      refine g_aload_n k rfl dX4_isName_19 ?_
      refine g_get k 4 7 (C := RX4) (T := TX4) (N := 11) fl_X4_77 rfl wi_X4 (by decide) rfl ha rfl dX4_isName_20 ?_
      refine g_ldc2 k (z := 72564293) cn_X4_99 rfl dX4_isName_23 ?_
      refine g_lcmp k (by omega) (by omega) dX4_isName_26 ?_
      have l26 := @lc0 wd 72564293
      have m26 := @lcr wd 72564293
      refine g_if_eq k (tgt := 45) (by omega) dX4_isName_27 (by decide) (fun c27 => ?_) (fun c27 => ?_)
      · skip
        refine g_iconst k dX4_isName_45 ?_
        rw [← hQQ]
        refine g_zreti k (by omega) rfl dX4_isName_46 ?_
        exact ⟨rfl, bz.n (by unfold isNm; omega)⟩
      · skip
        refine g_aload_n k rfl dX4_isName_30 ?_
        refine g_get k 4 7 (C := RX4) (T := TX4) (N := 11) fl_X4_77 rfl wi_X4 (by decide) rfl ha rfl dX4_isName_31 ?_
        refine g_ldc2 k (z := 72983685) cn_X4_101 rfl dX4_isName_34 ?_
        refine g_lcmp k (by omega) (by omega) dX4_isName_37 ?_
        have l37 := @lc0 wd 72983685
        have m37 := @lcr wd 72983685
        refine g_if_eq k (tgt := 45) (by omega) dX4_isName_38 (by decide) (fun c38 => ?_) (fun c38 => ?_)
        · skip
          refine g_iconst k dX4_isName_45 ?_
          rw [← hQQ]
          refine g_zreti k (by omega) rfl dX4_isName_46 ?_
          exact ⟨rfl, bz.n (by unfold isNm; omega)⟩
        · skip
          refine g_iconst k dX4_isName_41 ?_
          refine g_goto k (tgt := 46) dX4_isName_42 (by decide) ?_
          rw [← hQQ]
          refine g_zreti k (by omega) rfl dX4_isName_46 ?_
          exact ⟨rfl, bz.y (by unfold isNm; omega)⟩

set_option maxHeartbeats 600000 in
set_option maxRecDepth 100000 in
theorem c_X4_itemNamed {G : Gx} {h : Hp} {nx a t r : Nat} {ft fp lm pl nt tk wd : Int} {NM : Nat → Int} (hA : RDC G h a ft fp lm pl nt tk wd NM t r) (hw : 0 ≤ wd ∧ wd < 34359738368) {it m : Nat} {K : List Value} (h8 : it ≤ 8) (hd : h (a + 1) = some (ob 0 [vi (it : Int), vi (m : Int), .ref (a + 1 + 1), .ref (a + 1 + 2), .ref (a + 1 + 3)])) (hN : ∀ i, i < it → 0 ≤ NM i ∧ NM i < 34359738368) : Con G yX4_itemNamed cX4_itemNamed 2 (some .int) 1 0 0 [.ref a] h nx (PI fun z h' => h' = h ∧ z = sr (fun i => NM i = wd) it) := by
  obtain ⟨ha, hn⟩ := hA
  refine Con.of v_X4_itemNamed.2.2.2.2.2.1 (Nat.le_of_ble_eq_true rfl) (lv := [(0, .ref a)]) rfl (fun X k => ?_)
  generalize hQQ : QM G X nx 0 0 _ = QQ
  refine g_iconst k dX4_itemNamed_0 ?_
  refine g_istore_n k (lv2 := [(0, .ref a), (1, vi 0)]) (by decide) rfl rfl dX4_itemNamed_1 ?_
  have K2 : ∀ (nz : Nat) (v : Nat) (hv : v ≤ it) (hno : ∀ j, j < v → ¬ NM j = wd) (hmz : it - v < nz), Go G X 2 QQ 0 0 nx 2 [(0, .ref a), (1, vi (v : Int))] [] h := by
    intro nz
    induction nz with
    | zero => intro v hv hno hmz; exact absurd hmz (Nat.not_lt_zero _)
    | succ nz ih2 =>
      intro v hv hno hmz
      refine g_iload_n k rfl dX4_itemNamed_2 ?_
      refine g_aload_n k rfl dX4_itemNamed_3 ?_
      refine g_get k 4 1 (C := RX4) (T := TX4) (N := 11) fl_X4_14 rfl wi_X4 (by decide) rfl ha rfl dX4_itemNamed_4 ?_
      refine g_get k 0 0 (C := RX0) (T := TX0) (N := 5) fl_X4_83 rfl wi_X0 (by decide) rfl hd rfl dX4_itemNamed_7 ?_
      refine g_icmp_ge k (tgt := 35) (by omega) (by omega) dX4_itemNamed_10 (by decide) (fun c10 => ?_) (fun c10 => ?_)
      · skip
        refine g_iconst k dX4_itemNamed_35 ?_
        rw [← hQQ]
        refine g_ireti k rfl dX4_itemNamed_36 ?_
        exact ⟨rfl, (sr_miss (fun j hj => hno j (by omega))).symm⟩
      · skip
        have b1 := hN v (by omega)
        have l1 := @lc0 (NM v) wd
        have l2 := @lcr (NM v) wd
        refine g_aload_n k rfl dX4_itemNamed_13 ?_
        refine g_get k 4 8 (C := RX4) (T := TX4) (N := 11) fl_X4_18 rfl wi_X4 (by decide) rfl ha rfl dX4_itemNamed_14 ?_
        refine g_iload_n k rfl dX4_itemNamed_17 ?_
        refine g_lald k v hn (by omega) (by omega) (by decide) dX4_itemNamed_18 ?_
        refine g_aload_n k rfl dX4_itemNamed_19 ?_
        refine g_get k 4 7 (C := RX4) (T := TX4) (N := 11) fl_X4_77 rfl wi_X4 (by decide) rfl ha rfl dX4_itemNamed_20 ?_
        refine g_lcmp k (by omega) (by omega) dX4_itemNamed_23 ?_
        refine g_if_ne k (tgt := 29) (by omega) dX4_itemNamed_24 (by decide) (fun c24 => ?_) (fun c24 => ?_)
        · skip
          refine g_iinc k (lv2 := [(0, .ref a), (1, vi ((v : Int) + 1))]) rfl (by decide) rfl rfl dX4_itemNamed_29 ?_
          refine g_goto k (tgt := 2) dX4_itemNamed_32 (by decide) ?_
          exact ih2 (v + 1) (by omega) (lt_s2 hno (by omega)) (by omega)
        · skip
          refine g_iload_n k rfl dX4_itemNamed_27 ?_
          rw [← hQQ]
          refine g_ireti k rfl dX4_itemNamed_28 ?_
          exact ⟨rfl, (sr_hit (by omega) (by omega) hno).symm⟩
  exact K2 _ 0 (Nat.zero_le _) (fun j hj => absurd hj (Nat.not_lt_zero j)) (Nat.lt_succ_self _)

set_option maxHeartbeats 600000 in
set_option maxRecDepth 100000 in
theorem c_X4_readWord {G : Gx} {h : Hp} {nx a t r p0 : Nat} {ft fp lm tk wd : Int} {NM : Nat → Int} (hA : RDC G h a ft fp lm p0 p0 tk wd NM t r) {n : Nat} {T : Nat → Int} (hT : TA G h t n T) (hn7 : n ≤ 740) (hBy : Byt T) (hda : a + 5 < t ∨ t + 1 < a) (hp0 : p0 ≤ n) : Con G yX4_readWord cX4_readWord 1 none 2 0 0 [.ref a] h nx (PV fun h' => RDC G h' a ft fp lm p0 (leF T (n - p0) p0 : Nat) (if leF T (n - p0) p0 - p0 ≤ 7 then 1 else 3) (wdF T p0 (leF T (n - p0) p0 - p0)) NM t r ∧ ∀ q : Nat, (q < a ∨ a < q) → h' q = h q) := by
  obtain ⟨ha, hn⟩ := hA
  obtain ⟨ht, hb⟩ := hT
  refine Con.of v_X4_readWord.2.2.2.2.2.1 (Nat.le_of_ble_eq_true rfl) (lv := [(0, .ref a)]) rfl (fun X k => ?_)
  generalize hQQ : QM G X nx 0 0 _ = QQ
  have fr0 : ∀ q : Nat, (q < a ∨ a < q) → h q = h q := fun _ _ => rfl
  refine g_aload_n k rfl dX4_readWord_0 ?_
  refine g_lconst k (z := 0) rfl dX4_readWord_1 ?_
  refine g_put k 4 7 (C := RX4) (T := TX4) (N := 11) fl_X4_77 rfl wi_X4 tyX4 tyX4_ok nmX4 (by decide) rfl rfl rfl rfl ha (Nat.le_of_ble_eq_true rfl) (fs2 := [vi ft, .ref (a + 1), vi fp, vi lm, vi (p0 : Int), vi (p0 : Int), vi tk, vl 0, .ref (a + 5), .ref t, .ref r]) rfl rfl dX4_readWord_2 (fun h2 eh2 => ?_)
  have ha_ : h2 a = some (ob 4 [vi ft, .ref (a + 1), vi fp, vi lm, vi (p0 : Int), vi (p0 : Int), vi tk, vl 0, .ref (a + 5), .ref t, .ref r]) := (congrFun eh2 _).trans hup_s
  have hn_ : h2 (a + 5) = some (al G 8 NM) := (congrFun eh2 _).trans ((hup_n (by omega)).trans hn)
  have ht_ : h2 t = some (ob 7 [vi (n : Int), .ref (t + 1)]) := (congrFun eh2 _).trans ((hup_n (by omega)).trans ht)
  have hb_ : h2 (t + 1) = some (ai G 740 T) := (congrFun eh2 _).trans ((hup_n (by omega)).trans hb)
  have fr_ : ∀ q : Nat, (q < a ∨ a < q) → h2 q = h q := fun q hq => (congrFun eh2 q).trans ((hup_n (by omega)).trans (fr0 q hq))
  have K5 : ∀ (nz : Nat) (j : Nat) (h5 : Hp) (ha__1 : h5 a = some (ob 4 [vi ft, .ref (a + 1), vi fp, vi lm, vi (p0 : Int), vi ((p0 + j : Nat) : Int), vi tk, vl (wdF T p0 j), .ref (a + 5), .ref t, .ref r])) (hn__1 : h5 (a + 5) = some (al G 8 NM)) (ht__1 : h5 t = some (ob 7 [vi (n : Int), .ref (t + 1)])) (hb__1 : h5 (t + 1) = some (ai G 740 T)) (fr__1 : ∀ q : Nat, (q < a ∨ a < q) → h5 q = h q) (hj : p0 + j ≤ n) (hle : leF T (n - (p0 + j)) (p0 + j) = leF T (n - p0) p0) (hmz : n - (p0 + j) < nz), Go G X 1 QQ 0 0 nx 5 [(0, .ref a)] [] h5 := by
    intro nz
    induction nz with
    | zero => intro j h5 ha__1 hn__1 ht__1 hb__1 fr__1 hj hle hmz; exact absurd hmz (Nat.not_lt_zero _)
    | succ nz ih5 =>
      intro j h5 ha__1 hn__1 ht__1 hb__1 fr__1 hj hle hmz
      refine g_aload_n k rfl dX4_readWord_5 ?_
      refine g_get k 4 5 (C := RX4) (T := TX4) (N := 11) fl_X4_34 rfl wi_X4 (by decide) rfl ha__1 rfl dX4_readWord_6 ?_
      refine g_aload_n k rfl dX4_readWord_9 ?_
      refine g_get k 4 9 (C := RX4) (T := TX4) (N := 11) fl_X4_22 rfl wi_X4 (by decide) rfl ha__1 rfl dX4_readWord_10 ?_
      refine g_get k 7 0 (C := RX7) (T := TX7) (N := 2) fl_X4_37 rfl wi_X7 (by decide) rfl ht__1 rfl dX4_readWord_13 ?_
      refine g_icmp_ge k (tgt := 81) (by omega) (by omega) dX4_readWord_16 (by decide) (fun c16 => ?_) (fun c16 => ?_)
      · skip
        have ej : leF T (n - p0) p0 = p0 + j := by rw [← hle, show n - (p0 + j) = 0 by omega]; rfl
        have K101 : ∀ (tz : Int) (htz : tz = if j ≤ 7 then 1 else 3), Go G X 1 QQ 0 0 nx 101 [(0, .ref a)] [vi tz, .ref a] h5 := by
          intro tz htz
          refine g_put k 4 6 (C := RX4) (T := TX4) (N := 11) fl_X4_57 rfl wi_X4 tyX4 tyX4_ok nmX4 (by decide) rfl rfl rfl rfl ha__1 (Nat.le_of_ble_eq_true rfl) (fs2 := [vi ft, .ref (a + 1), vi fp, vi lm, vi (p0 : Int), vi ((p0 + j : Nat) : Int), vi tz, vl (wdF T p0 j), .ref (a + 5), .ref t, .ref r]) rfl rfl dX4_readWord_101 (fun h101 eh101 => ?_)
          have ha__2 : h101 a = some (ob 4 [vi ft, .ref (a + 1), vi fp, vi lm, vi (p0 : Int), vi ((p0 + j : Nat) : Int), vi tz, vl (wdF T p0 j), .ref (a + 5), .ref t, .ref r]) := (congrFun eh101 _).trans hup_s
          have hn__2 : h101 (a + 5) = some (al G 8 NM) := (congrFun eh101 _).trans ((hup_n (by omega)).trans hn__1)
          have ht__2 : h101 t = some (ob 7 [vi (n : Int), .ref (t + 1)]) := (congrFun eh101 _).trans ((hup_n (by omega)).trans ht__1)
          have hb__2 : h101 (t + 1) = some (ai G 740 T) := (congrFun eh101 _).trans ((hup_n (by omega)).trans hb__1)
          have fr__2 : ∀ q : Nat, (q < a ∨ a < q) → h101 q = h q := fun q hq => (congrFun eh101 q).trans ((hup_n (by omega)).trans (fr__1 q hq))
          rw [← hQQ]
          refine g_retv k rfl dX4_readWord_104 ?_
          rw [ej, show p0 + j - p0 = j by omega]
          refine ⟨⟨?_, hn__2⟩, fr__2⟩
          rw [show ((if j ≤ 7 then 1 else 3 : Int)) = tz from htz.symm]
          exact ha__2
        refine g_aload_n k rfl dX4_readWord_81 ?_
        refine g_aload_n k rfl dX4_readWord_82 ?_
        refine g_get k 4 5 (C := RX4) (T := TX4) (N := 11) fl_X4_34 rfl wi_X4 (by decide) rfl ha__1 rfl dX4_readWord_83 ?_
        refine g_aload_n k rfl dX4_readWord_86 ?_
        refine g_get k 4 4 (C := RX4) (T := TX4) (N := 11) fl_X4_86 rfl wi_X4 (by decide) rfl ha__1 rfl dX4_readWord_87 ?_
        refine g_isub k dX4_readWord_90 ?_
        refine g_bipush k rfl dX4_readWord_91 ?_
        refine g_icmp_gt k (tgt := 100) (by omega) (by omega) dX4_readWord_93 (by decide) (fun c93 => ?_) (fun c93 => ?_)
        · skip
          refine g_iconst k dX4_readWord_100 ?_
          exact K101 _ (by rw [if_neg (by omega)])
        · skip
          refine g_iconst k dX4_readWord_96 ?_
          refine g_goto k (tgt := 101) dX4_readWord_97 (by decide) ?_
          exact K101 _ (by rw [if_pos (by omega)])
      · skip
        refine g_aload_n k rfl dX4_readWord_19 ?_
        refine g_get k 4 9 (C := RX4) (T := TX4) (N := 11) fl_X4_22 rfl wi_X4 (by decide) rfl ha__1 rfl dX4_readWord_20 ?_
        refine g_get k 7 1 (C := RX7) (T := TX7) (N := 2) fl_X4_116 rfl wi_X7 (by decide) rfl ht__1 rfl dX4_readWord_23 ?_
        refine g_aload_n k rfl dX4_readWord_26 ?_
        refine g_get k 4 5 (C := RX4) (T := TX4) (N := 11) fl_X4_34 rfl wi_X4 (by decide) rfl ha__1 rfl dX4_readWord_27 ?_
        refine g_iald k (p0 + j) hb__1 (by omega) (by omega) (by decide) dX4_readWord_30 ?_
        refine g_cSi k (As := [vi (T (p0 + j))]) v_X4_isLetter ml_X4_124 (c_X4_isLetter (hBy (p0 + j))) (by omega) (by omega) rfl (Nat.le_of_ble_eq_true rfl) rfl dX4_readWord_31 (fun r31 h31 p31 => ?_)
        obtain ⟨eh31, p31⟩ := p31
        have eh31 := eh31.symm; subst eh31
        have q31 := p31
        have q31r := q31.r
        have hbj := hBy (p0 + j)
        refine g_if_eq k (tgt := 81) (by omega) dX4_readWord_34 (by decide) (fun c34 => ?_) (fun c34 => ?_)
        · skip
          have ej : leF T (n - p0) p0 = p0 + j := by rw [← hle, show n - (p0 + j) = n - (p0 + j) - 1 + 1 by omega, leF, if_neg (q31.f (by omega))]
          have K101_1 : ∀ (tz : Int) (htz : tz = if j ≤ 7 then 1 else 3), Go G X 1 QQ 0 0 nx 101 [(0, .ref a)] [vi tz, .ref a] h5 := by
            intro tz htz
            refine g_put k 4 6 (C := RX4) (T := TX4) (N := 11) fl_X4_57 rfl wi_X4 tyX4 tyX4_ok nmX4 (by decide) rfl rfl rfl rfl ha__1 (Nat.le_of_ble_eq_true rfl) (fs2 := [vi ft, .ref (a + 1), vi fp, vi lm, vi (p0 : Int), vi ((p0 + j : Nat) : Int), vi tz, vl (wdF T p0 j), .ref (a + 5), .ref t, .ref r]) rfl rfl dX4_readWord_101 (fun h101_1 eh101_1 => ?_)
            have ha__3 : h101_1 a = some (ob 4 [vi ft, .ref (a + 1), vi fp, vi lm, vi (p0 : Int), vi ((p0 + j : Nat) : Int), vi tz, vl (wdF T p0 j), .ref (a + 5), .ref t, .ref r]) := (congrFun eh101_1 _).trans hup_s
            have hn__3 : h101_1 (a + 5) = some (al G 8 NM) := (congrFun eh101_1 _).trans ((hup_n (by omega)).trans hn__1)
            have ht__3 : h101_1 t = some (ob 7 [vi (n : Int), .ref (t + 1)]) := (congrFun eh101_1 _).trans ((hup_n (by omega)).trans ht__1)
            have hb__3 : h101_1 (t + 1) = some (ai G 740 T) := (congrFun eh101_1 _).trans ((hup_n (by omega)).trans hb__1)
            have fr__3 : ∀ q : Nat, (q < a ∨ a < q) → h101_1 q = h q := fun q hq => (congrFun eh101_1 q).trans ((hup_n (by omega)).trans (fr__1 q hq))
            rw [← hQQ]
            refine g_retv k rfl dX4_readWord_104 ?_
            rw [ej, show p0 + j - p0 = j by omega]
            refine ⟨⟨?_, hn__3⟩, fr__3⟩
            rw [show ((if j ≤ 7 then 1 else 3 : Int)) = tz from htz.symm]
            exact ha__3
          refine g_aload_n k rfl dX4_readWord_81 ?_
          refine g_aload_n k rfl dX4_readWord_82 ?_
          refine g_get k 4 5 (C := RX4) (T := TX4) (N := 11) fl_X4_34 rfl wi_X4 (by decide) rfl ha__1 rfl dX4_readWord_83 ?_
          refine g_aload_n k rfl dX4_readWord_86 ?_
          refine g_get k 4 4 (C := RX4) (T := TX4) (N := 11) fl_X4_86 rfl wi_X4 (by decide) rfl ha__1 rfl dX4_readWord_87 ?_
          refine g_isub k dX4_readWord_90 ?_
          refine g_bipush k rfl dX4_readWord_91 ?_
          refine g_icmp_gt k (tgt := 100) (by omega) (by omega) dX4_readWord_93 (by decide) (fun c93_1 => ?_) (fun c93_1 => ?_)
          · skip
            refine g_iconst k dX4_readWord_100 ?_
            exact K101_1 _ (by rw [if_neg (by omega)])
          · skip
            refine g_iconst k dX4_readWord_96 ?_
            refine g_goto k (tgt := 101) dX4_readWord_97 (by decide) ?_
            exact K101_1 _ (by rw [if_pos (by omega)])
        · skip
          refine g_aload_n k rfl dX4_readWord_37 ?_
          refine g_aload_n k rfl dX4_readWord_38 ?_
          refine g_get k 4 7 (C := RX4) (T := TX4) (N := 11) fl_X4_77 rfl wi_X4 (by decide) rfl ha__1 rfl dX4_readWord_39 ?_
          refine g_ldc2 k (z := 32) cn_X4_130 rfl dX4_readWord_42 ?_
          refine g_lmul k dX4_readWord_45 ?_
          refine g_aload_n k rfl dX4_readWord_46 ?_
          refine g_get k 4 9 (C := RX4) (T := TX4) (N := 11) fl_X4_22 rfl wi_X4 (by decide) rfl ha__1 rfl dX4_readWord_47 ?_
          refine g_get k 7 1 (C := RX7) (T := TX7) (N := 2) fl_X4_116 rfl wi_X7 (by decide) rfl ht__1 rfl dX4_readWord_50 ?_
          refine g_aload_n k rfl dX4_readWord_53 ?_
          refine g_get k 4 5 (C := RX4) (T := TX4) (N := 11) fl_X4_34 rfl wi_X4 (by decide) rfl ha__1 rfl dX4_readWord_54 ?_
          refine g_iald k (p0 + j) hb__1 (by omega) (by omega) (by decide) dX4_readWord_57 ?_
          refine g_bipush k rfl dX4_readWord_58 ?_
          refine g_isub k dX4_readWord_60 ?_
          refine g_iconst k dX4_readWord_61 ?_
          refine g_iadd k dX4_readWord_62 ?_
          refine g_i2l k (by omega) dX4_readWord_63 ?_
          refine g_ladd k dX4_readWord_64 ?_
          refine g_put k 4 7 (C := RX4) (T := TX4) (N := 11) fl_X4_77 rfl wi_X4 tyX4 tyX4_ok nmX4 (by decide) rfl rfl rfl rfl ha__1 (Nat.le_of_ble_eq_true rfl) (fs2 := [vi ft, .ref (a + 1), vi fp, vi lm, vi (p0 : Int), vi ((p0 + j : Nat) : Int), vi tk, vl (((wdF T p0 j) * 32) + (((T (p0 + j)) - 97) + 1)), .ref (a + 5), .ref t, .ref r]) rfl rfl dX4_readWord_65 (fun h65 eh65 => ?_)
          have ha__4 : h65 a = some (ob 4 [vi ft, .ref (a + 1), vi fp, vi lm, vi (p0 : Int), vi ((p0 + j : Nat) : Int), vi tk, vl (((wdF T p0 j) * 32) + (((T (p0 + j)) - 97) + 1)), .ref (a + 5), .ref t, .ref r]) := (congrFun eh65 _).trans hup_s
          have hn__4 : h65 (a + 5) = some (al G 8 NM) := (congrFun eh65 _).trans ((hup_n (by omega)).trans hn__1)
          have ht__4 : h65 t = some (ob 7 [vi (n : Int), .ref (t + 1)]) := (congrFun eh65 _).trans ((hup_n (by omega)).trans ht__1)
          have hb__4 : h65 (t + 1) = some (ai G 740 T) := (congrFun eh65 _).trans ((hup_n (by omega)).trans hb__1)
          have fr__4 : ∀ q : Nat, (q < a ∨ a < q) → h65 q = h q := fun q hq => (congrFun eh65 q).trans ((hup_n (by omega)).trans (fr__1 q hq))
          refine g_aload_n k rfl dX4_readWord_68 ?_
          refine g_dup k rfl dX4_readWord_69 ?_
          refine g_get k 4 5 (C := RX4) (T := TX4) (N := 11) fl_X4_34 rfl wi_X4 (by decide) rfl ha__4 rfl dX4_readWord_70 ?_
          refine g_iconst k dX4_readWord_73 ?_
          refine g_iadd k dX4_readWord_74 ?_
          refine g_put k 4 5 (C := RX4) (T := TX4) (N := 11) fl_X4_34 rfl wi_X4 tyX4 tyX4_ok nmX4 (by decide) rfl rfl rfl rfl ha__4 (Nat.le_of_ble_eq_true rfl) (fs2 := [vi ft, .ref (a + 1), vi fp, vi lm, vi (p0 : Int), vi (((p0 + j : Nat) : Int) + 1), vi tk, vl (((wdF T p0 j) * 32) + (((T (p0 + j)) - 97) + 1)), .ref (a + 5), .ref t, .ref r]) rfl rfl dX4_readWord_75 (fun h75 eh75 => ?_)
          have ha__5 : h75 a = some (ob 4 [vi ft, .ref (a + 1), vi fp, vi lm, vi (p0 : Int), vi (((p0 + j : Nat) : Int) + 1), vi tk, vl (((wdF T p0 j) * 32) + (((T (p0 + j)) - 97) + 1)), .ref (a + 5), .ref t, .ref r]) := (congrFun eh75 _).trans hup_s
          have hn__5 : h75 (a + 5) = some (al G 8 NM) := (congrFun eh75 _).trans ((hup_n (by omega)).trans hn__4)
          have ht__5 : h75 t = some (ob 7 [vi (n : Int), .ref (t + 1)]) := (congrFun eh75 _).trans ((hup_n (by omega)).trans ht__4)
          have hb__5 : h75 (t + 1) = some (ai G 740 T) := (congrFun eh75 _).trans ((hup_n (by omega)).trans hb__4)
          have fr__5 : ∀ q : Nat, (q < a ∨ a < q) → h75 q = h q := fun q hq => (congrFun eh75 q).trans ((hup_n (by omega)).trans (fr__4 q hq))
          refine g_goto k (tgt := 5) dX4_readWord_78 (by decide) ?_
          exact ih5 (j + 1) h75 ha__5 hn__5 ht__5 hb__5 fr__5 (by omega) (by rw [← hle, show n - (p0 + j) = n - (p0 + (j + 1)) + 1 by omega, leF, if_pos (q31.t (by omega))]; rfl) (by omega)
  exact K5 _ 0 h2 ha_ hn_ ht_ hb_ fr_ hp0 rfl (Nat.lt_succ_self _)

set_option maxHeartbeats 600000 in
set_option maxRecDepth 100000 in
theorem c_X4_step {G : Gx} {h : Hp} {nx a t r nt0 lm0 : Nat} {ft fp pl tk wd : Int} {NM : Nat → Int} (hA : RDC G h a ft fp lm0 pl nt0 tk wd NM t r) {n : Nat} {T : Nat → Int} (hT : TA G h t n T) (hn7 : n ≤ 740) (hBy : Byt T) (hda : a + 5 < t ∨ t + 1 < a) (hlm : lm0 ≤ n) (hnt : nt0 ≤ n) : Con G yX4_step cX4_step 1 none 3 0 0 [.ref a] h nx (PV fun h' => RDC G h' a ft fp lm0 (stF T n lm0 nt0 wd).2.1 (stF T n lm0 nt0 wd).2.2.1 (stF T n lm0 nt0 wd).1 (stF T n lm0 nt0 wd).2.2.2 NM t r ∧ ∀ q : Nat, (q < a ∨ a < q) → h' q = h q) := by
  obtain ⟨ha, hn⟩ := hA
  have hT0 := hT
  obtain ⟨ht, hb⟩ := hT
  refine Con.of v_X4_step.2.2.2.2.2.1 (Nat.le_of_ble_eq_true rfl) (lv := [(0, .ref a)]) rfl (fun X k => ?_)
  generalize hQQ : QM G X nx 0 0 _ = QQ
  have fr0 : ∀ q : Nat, (q < a ∨ a < q) → h q = h q := fun _ _ => rfl
  have K0 : ∀ (nz : Nat) (p : Nat) (h0 : Hp) (ha_ : h0 a = some (ob 4 [vi ft, .ref (a + 1), vi fp, vi (lm0 : Int), vi pl, vi (p : Int), vi tk, vl wd, .ref (a + 5), .ref t, .ref r])) (hn_ : h0 (a + 5) = some (al G 8 NM)) (ht_ : h0 t = some (ob 7 [vi (n : Int), .ref (t + 1)])) (hb_ : h0 (t + 1) = some (ai G 740 T)) (fr_ : ∀ q : Nat, (q < a ∨ a < q) → h0 q = h q) (hp : p ≤ n) (hsk : skF T (lm0 - p) p = skF T (lm0 - nt0) nt0) (hmz : lm0 - p < nz), Go G X 1 QQ 0 0 nx 0 [(0, .ref a)] [] h0 := by
    intro nz
    induction nz with
    | zero => intro p h0 ha_ hn_ ht_ hb_ fr_ hp hsk hmz; exact absurd hmz (Nat.not_lt_zero _)
    | succ nz ih0 =>
      intro p h0 ha_ hn_ ht_ hb_ fr_ hp hsk hmz
      refine g_aload_n k rfl dX4_step_0 ?_
      refine g_get k 4 5 (C := RX4) (T := TX4) (N := 11) fl_X4_34 rfl wi_X4 (by decide) rfl ha_ rfl dX4_step_1 ?_
      refine g_aload_n k rfl dX4_step_4 ?_
      refine g_get k 4 3 (C := RX4) (T := TX4) (N := 11) fl_X4_48 rfl wi_X4 (by decide) rfl ha_ rfl dX4_step_5 ?_
      refine g_icmp_ge k (tgt := 42) (by omega) (by omega) dX4_step_8 (by decide) (fun c8 => ?_) (fun c8 => ?_)
      · skip
        have ep : skF T (lm0 - nt0) nt0 = p := by rw [← hsk, show lm0 - p = 0 by omega]; rfl
        refine g_aload_n k rfl dX4_step_42 ?_
        refine g_get k 4 5 (C := RX4) (T := TX4) (N := 11) fl_X4_34 rfl wi_X4 (by decide) rfl ha_ rfl dX4_step_43 ?_
        refine g_aload_n k rfl dX4_step_46 ?_
        refine g_get k 4 3 (C := RX4) (T := TX4) (N := 11) fl_X4_48 rfl wi_X4 (by decide) rfl ha_ rfl dX4_step_47 ?_
        refine g_icmp_lt k (tgt := 67) (by omega) (by omega) dX4_step_50 (by decide) (fun c50 => ?_) (fun c50 => ?_)
        · skip
          refine g_aload_n k rfl dX4_step_67 ?_
          refine g_aload_n k rfl dX4_step_68 ?_
          refine g_get k 4 5 (C := RX4) (T := TX4) (N := 11) fl_X4_34 rfl wi_X4 (by decide) rfl ha_ rfl dX4_step_69 ?_
          refine g_put k 4 4 (C := RX4) (T := TX4) (N := 11) fl_X4_86 rfl wi_X4 tyX4 tyX4_ok nmX4 (by decide) rfl rfl rfl rfl ha_ (Nat.le_of_ble_eq_true rfl) (fs2 := [vi ft, .ref (a + 1), vi fp, vi (lm0 : Int), vi (p : Int), vi (p : Int), vi tk, vl wd, .ref (a + 5), .ref t, .ref r]) rfl rfl dX4_step_72 (fun h72 eh72 => ?_)
          have ha__1 : h72 a = some (ob 4 [vi ft, .ref (a + 1), vi fp, vi (lm0 : Int), vi (p : Int), vi (p : Int), vi tk, vl wd, .ref (a + 5), .ref t, .ref r]) := (congrFun eh72 _).trans hup_s
          have hn__1 : h72 (a + 5) = some (al G 8 NM) := (congrFun eh72 _).trans ((hup_n (by omega)).trans hn_)
          have ht__1 : h72 t = some (ob 7 [vi (n : Int), .ref (t + 1)]) := (congrFun eh72 _).trans ((hup_n (by omega)).trans ht_)
          have hb__1 : h72 (t + 1) = some (ai G 740 T) := (congrFun eh72 _).trans ((hup_n (by omega)).trans hb_)
          have fr__1 : ∀ q : Nat, (q < a ∨ a < q) → h72 q = h q := fun q hq => (congrFun eh72 q).trans ((hup_n (by omega)).trans (fr_ q hq))
          refine g_aload_n k rfl dX4_step_75 ?_
          refine g_get k 4 9 (C := RX4) (T := TX4) (N := 11) fl_X4_22 rfl wi_X4 (by decide) rfl ha__1 rfl dX4_step_76 ?_
          refine g_get k 7 1 (C := RX7) (T := TX7) (N := 2) fl_X4_116 rfl wi_X7 (by decide) rfl ht__1 rfl dX4_step_79 ?_
          refine g_aload_n k rfl dX4_step_82 ?_
          refine g_get k 4 5 (C := RX4) (T := TX4) (N := 11) fl_X4_34 rfl wi_X4 (by decide) rfl ha__1 rfl dX4_step_83 ?_
          refine g_iald k p hb__1 (by omega) (by omega) (by decide) dX4_step_86 ?_
          refine g_cSi k (As := [vi (T p)]) v_X4_isLetter ml_X4_124 (c_X4_isLetter (hBy p)) (by omega) (by omega) rfl (Nat.le_of_ble_eq_true rfl) rfl dX4_step_87 (fun r87 h87 p87 => ?_)
          obtain ⟨eh87, p87⟩ := p87
          have eh87 := eh87.symm; subst eh87
          have q87 := p87
          have q87r := q87.r
          have hbp := hBy p
          refine g_if_eq k (tgt := 100) (by omega) dX4_step_90 (by decide) (fun c90 => ?_) (fun c90 => ?_)
          · skip
            have K123 : ∀ (tz : Int) (htz : tz = if T p = 59 then 2 else 3), Go G X 1 QQ 0 0 nx 123 [(0, .ref a)] [vi tz, .ref a] h72 := by
              intro tz htz
              refine g_put k 4 6 (C := RX4) (T := TX4) (N := 11) fl_X4_57 rfl wi_X4 tyX4 tyX4_ok nmX4 (by decide) rfl rfl rfl rfl ha__1 (Nat.le_of_ble_eq_true rfl) (fs2 := [vi ft, .ref (a + 1), vi fp, vi (lm0 : Int), vi (p : Int), vi (p : Int), vi tz, vl wd, .ref (a + 5), .ref t, .ref r]) rfl rfl dX4_step_123 (fun h123 eh123 => ?_)
              have ha__2 : h123 a = some (ob 4 [vi ft, .ref (a + 1), vi fp, vi (lm0 : Int), vi (p : Int), vi (p : Int), vi tz, vl wd, .ref (a + 5), .ref t, .ref r]) := (congrFun eh123 _).trans hup_s
              have hn__2 : h123 (a + 5) = some (al G 8 NM) := (congrFun eh123 _).trans ((hup_n (by omega)).trans hn__1)
              have ht__2 : h123 t = some (ob 7 [vi (n : Int), .ref (t + 1)]) := (congrFun eh123 _).trans ((hup_n (by omega)).trans ht__1)
              have hb__2 : h123 (t + 1) = some (ai G 740 T) := (congrFun eh123 _).trans ((hup_n (by omega)).trans hb__1)
              have fr__2 : ∀ q : Nat, (q < a ∨ a < q) → h123 q = h q := fun q hq => (congrFun eh123 q).trans ((hup_n (by omega)).trans (fr__1 q hq))
              refine g_aload_n k rfl dX4_step_126 ?_
              refine g_dup k rfl dX4_step_127 ?_
              refine g_get k 4 5 (C := RX4) (T := TX4) (N := 11) fl_X4_34 rfl wi_X4 (by decide) rfl ha__2 rfl dX4_step_128 ?_
              refine g_iconst k dX4_step_131 ?_
              refine g_iadd k dX4_step_132 ?_
              refine g_put k 4 5 (C := RX4) (T := TX4) (N := 11) fl_X4_34 rfl wi_X4 tyX4 tyX4_ok nmX4 (by decide) rfl rfl rfl rfl ha__2 (Nat.le_of_ble_eq_true rfl) (fs2 := [vi ft, .ref (a + 1), vi fp, vi (lm0 : Int), vi (p : Int), vi ((p : Int) + 1), vi tz, vl wd, .ref (a + 5), .ref t, .ref r]) rfl rfl dX4_step_133 (fun h133 eh133 => ?_)
              have ha__3 : h133 a = some (ob 4 [vi ft, .ref (a + 1), vi fp, vi (lm0 : Int), vi (p : Int), vi ((p : Int) + 1), vi tz, vl wd, .ref (a + 5), .ref t, .ref r]) := (congrFun eh133 _).trans hup_s
              have hn__3 : h133 (a + 5) = some (al G 8 NM) := (congrFun eh133 _).trans ((hup_n (by omega)).trans hn__2)
              have ht__3 : h133 t = some (ob 7 [vi (n : Int), .ref (t + 1)]) := (congrFun eh133 _).trans ((hup_n (by omega)).trans ht__2)
              have hb__3 : h133 (t + 1) = some (ai G 740 T) := (congrFun eh133 _).trans ((hup_n (by omega)).trans hb__2)
              have fr__3 : ∀ q : Nat, (q < a ∨ a < q) → h133 q = h q := fun q hq => (congrFun eh133 q).trans ((hup_n (by omega)).trans (fr__2 q hq))
              rw [← hQQ]
              refine g_retv k rfl dX4_step_136 ?_
              unfold stF
              rw [ep, if_neg (by omega), if_neg (q87.f (by omega))]
              refine ⟨⟨?_, hn__3⟩, fr__3⟩
              rw [show (((if T p = 59 then 2 else 3 : Nat)) : Int) = tz by rw [htz]; split <;> rfl]
              exact ha__3
            refine g_aload_n k rfl dX4_step_100 ?_
            refine g_aload_n k rfl dX4_step_101 ?_
            refine g_get k 4 9 (C := RX4) (T := TX4) (N := 11) fl_X4_22 rfl wi_X4 (by decide) rfl ha__1 rfl dX4_step_102 ?_
            refine g_get k 7 1 (C := RX7) (T := TX7) (N := 2) fl_X4_116 rfl wi_X7 (by decide) rfl ht__1 rfl dX4_step_105 ?_
            refine g_aload_n k rfl dX4_step_108 ?_
            refine g_get k 4 5 (C := RX4) (T := TX4) (N := 11) fl_X4_34 rfl wi_X4 (by decide) rfl ha__1 rfl dX4_step_109 ?_
            refine g_iald k p hb__1 (by omega) (by omega) (by decide) dX4_step_112 ?_
            refine g_bipush k rfl dX4_step_113 ?_
            refine g_icmp_ne k (tgt := 122) (by omega) (by omega) dX4_step_115 (by decide) (fun c115 => ?_) (fun c115 => ?_)
            · skip
              refine g_iconst k dX4_step_122 ?_
              exact K123 _ (by rw [if_neg (by omega)])
            · skip
              refine g_iconst k dX4_step_118 ?_
              refine g_goto k (tgt := 123) dX4_step_119 (by decide) ?_
              exact K123 _ (by rw [if_pos (by omega)])
          · skip
            refine g_aload_n k rfl dX4_step_93 ?_
            refine g_cVv k 4 (As := []) v_X4_readWord rfl rfl ha__1 ml_X4_127 (c_X4_readWord ⟨ha__1, hn__1⟩ ⟨ht__1, hb__1⟩ hn7 hBy hda (by omega)) (by omega) (by omega) rfl (Nat.le_of_ble_eq_true rfl) rfl dX4_step_94 (fun h94 p94 => ?_)
            obtain ⟨⟨na, nn⟩, nfr⟩ := p94
            have ht__4 : h94 t = some (ob 7 [vi (n : Int), .ref (t + 1)]) := (nfr _ (by omega)).trans ht__1
            have hb__4 : h94 (t + 1) = some (ai G 740 T) := (nfr _ (by omega)).trans hb__1
            have fr__4 : ∀ q : Nat, (q < a ∨ a < q) → h94 q = h q := fun q hq => (nfr q (by omega)).trans (fr__1 q hq)
            refine g_goto k (tgt := 136) dX4_step_97 (by decide) ?_
            rw [← hQQ]
            refine g_retv k rfl dX4_step_136 ?_
            unfold stF
            rw [ep, if_neg (by omega), if_pos (q87.t (by omega))]
            refine ⟨⟨?_, nn⟩, fr__4⟩
            rw [show (((if leF T (n - p) p - p ≤ 7 then 1 else 3 : Nat)) : Int) = (if leF T (n - p) p - p ≤ 7 then 1 else 3) by split <;> rfl]
            exact na
        · skip
          refine g_aload_n k rfl dX4_step_53 ?_
          refine g_iconst k dX4_step_54 ?_
          refine g_put k 4 6 (C := RX4) (T := TX4) (N := 11) fl_X4_57 rfl wi_X4 tyX4 tyX4_ok nmX4 (by decide) rfl rfl rfl rfl ha_ (Nat.le_of_ble_eq_true rfl) (fs2 := [vi ft, .ref (a + 1), vi fp, vi (lm0 : Int), vi pl, vi (p : Int), vi 0, vl wd, .ref (a + 5), .ref t, .ref r]) rfl rfl dX4_step_55 (fun h55 eh55 => ?_)
          have ha__5 : h55 a = some (ob 4 [vi ft, .ref (a + 1), vi fp, vi (lm0 : Int), vi pl, vi (p : Int), vi 0, vl wd, .ref (a + 5), .ref t, .ref r]) := (congrFun eh55 _).trans hup_s
          have hn__5 : h55 (a + 5) = some (al G 8 NM) := (congrFun eh55 _).trans ((hup_n (by omega)).trans hn_)
          have ht__5 : h55 t = some (ob 7 [vi (n : Int), .ref (t + 1)]) := (congrFun eh55 _).trans ((hup_n (by omega)).trans ht_)
          have hb__5 : h55 (t + 1) = some (ai G 740 T) := (congrFun eh55 _).trans ((hup_n (by omega)).trans hb_)
          have fr__5 : ∀ q : Nat, (q < a ∨ a < q) → h55 q = h q := fun q hq => (congrFun eh55 q).trans ((hup_n (by omega)).trans (fr_ q hq))
          refine g_aload_n k rfl dX4_step_58 ?_
          refine g_aload_n k rfl dX4_step_59 ?_
          refine g_get k 4 3 (C := RX4) (T := TX4) (N := 11) fl_X4_48 rfl wi_X4 (by decide) rfl ha__5 rfl dX4_step_60 ?_
          refine g_put k 4 4 (C := RX4) (T := TX4) (N := 11) fl_X4_86 rfl wi_X4 tyX4 tyX4_ok nmX4 (by decide) rfl rfl rfl rfl ha__5 (Nat.le_of_ble_eq_true rfl) (fs2 := [vi ft, .ref (a + 1), vi fp, vi (lm0 : Int), vi (lm0 : Int), vi (p : Int), vi 0, vl wd, .ref (a + 5), .ref t, .ref r]) rfl rfl dX4_step_63 (fun h63 eh63 => ?_)
          have ha__6 : h63 a = some (ob 4 [vi ft, .ref (a + 1), vi fp, vi (lm0 : Int), vi (lm0 : Int), vi (p : Int), vi 0, vl wd, .ref (a + 5), .ref t, .ref r]) := (congrFun eh63 _).trans hup_s
          have hn__6 : h63 (a + 5) = some (al G 8 NM) := (congrFun eh63 _).trans ((hup_n (by omega)).trans hn__5)
          have ht__6 : h63 t = some (ob 7 [vi (n : Int), .ref (t + 1)]) := (congrFun eh63 _).trans ((hup_n (by omega)).trans ht__5)
          have hb__6 : h63 (t + 1) = some (ai G 740 T) := (congrFun eh63 _).trans ((hup_n (by omega)).trans hb__5)
          have fr__6 : ∀ q : Nat, (q < a ∨ a < q) → h63 q = h q := fun q hq => (congrFun eh63 q).trans ((hup_n (by omega)).trans (fr__5 q hq))
          rw [← hQQ]
          refine g_retv k rfl dX4_step_66 ?_
          unfold stF
          rw [ep, if_pos (by omega)]
          exact ⟨⟨ha__6, hn__6⟩, fr__6⟩
      · skip
        refine g_aload_n k rfl dX4_step_11 ?_
        refine g_get k 4 9 (C := RX4) (T := TX4) (N := 11) fl_X4_22 rfl wi_X4 (by decide) rfl ha_ rfl dX4_step_12 ?_
        refine g_get k 7 1 (C := RX7) (T := TX7) (N := 2) fl_X4_116 rfl wi_X7 (by decide) rfl ht_ rfl dX4_step_15 ?_
        refine g_aload_n k rfl dX4_step_18 ?_
        refine g_get k 4 5 (C := RX4) (T := TX4) (N := 11) fl_X4_34 rfl wi_X4 (by decide) rfl ha_ rfl dX4_step_19 ?_
        refine g_iald k p hb_ (by omega) (by omega) (by decide) dX4_step_22 ?_
        refine g_cSi k (As := [vi (T p)]) v_X4_isBlank ml_X4_120 (c_X4_isBlank (hBy p)) (by omega) (by omega) rfl (Nat.le_of_ble_eq_true rfl) rfl dX4_step_23 (fun r23 h23 p23 => ?_)
        obtain ⟨eh23, p23⟩ := p23
        have eh23 := eh23.symm; subst eh23
        have q23 := p23
        have q23r := q23.r
        refine g_if_eq k (tgt := 42) (by omega) dX4_step_26 (by decide) (fun c26 => ?_) (fun c26 => ?_)
        · skip
          have ep : skF T (lm0 - nt0) nt0 = p := by rw [← hsk, show lm0 - p = lm0 - (p + 1) + 1 by omega, skF, if_neg (q23.f (by omega))]
          refine g_aload_n k rfl dX4_step_42 ?_
          refine g_get k 4 5 (C := RX4) (T := TX4) (N := 11) fl_X4_34 rfl wi_X4 (by decide) rfl ha_ rfl dX4_step_43 ?_
          refine g_aload_n k rfl dX4_step_46 ?_
          refine g_get k 4 3 (C := RX4) (T := TX4) (N := 11) fl_X4_48 rfl wi_X4 (by decide) rfl ha_ rfl dX4_step_47 ?_
          refine g_icmp_lt k (tgt := 67) (by omega) (by omega) dX4_step_50 (by decide) (fun c50_1 => ?_) (fun c50_1 => ?_)
          · skip
            refine g_aload_n k rfl dX4_step_67 ?_
            refine g_aload_n k rfl dX4_step_68 ?_
            refine g_get k 4 5 (C := RX4) (T := TX4) (N := 11) fl_X4_34 rfl wi_X4 (by decide) rfl ha_ rfl dX4_step_69 ?_
            refine g_put k 4 4 (C := RX4) (T := TX4) (N := 11) fl_X4_86 rfl wi_X4 tyX4 tyX4_ok nmX4 (by decide) rfl rfl rfl rfl ha_ (Nat.le_of_ble_eq_true rfl) (fs2 := [vi ft, .ref (a + 1), vi fp, vi (lm0 : Int), vi (p : Int), vi (p : Int), vi tk, vl wd, .ref (a + 5), .ref t, .ref r]) rfl rfl dX4_step_72 (fun h72_1 eh72_1 => ?_)
            have ha__7 : h72_1 a = some (ob 4 [vi ft, .ref (a + 1), vi fp, vi (lm0 : Int), vi (p : Int), vi (p : Int), vi tk, vl wd, .ref (a + 5), .ref t, .ref r]) := (congrFun eh72_1 _).trans hup_s
            have hn__7 : h72_1 (a + 5) = some (al G 8 NM) := (congrFun eh72_1 _).trans ((hup_n (by omega)).trans hn_)
            have ht__7 : h72_1 t = some (ob 7 [vi (n : Int), .ref (t + 1)]) := (congrFun eh72_1 _).trans ((hup_n (by omega)).trans ht_)
            have hb__7 : h72_1 (t + 1) = some (ai G 740 T) := (congrFun eh72_1 _).trans ((hup_n (by omega)).trans hb_)
            have fr__7 : ∀ q : Nat, (q < a ∨ a < q) → h72_1 q = h q := fun q hq => (congrFun eh72_1 q).trans ((hup_n (by omega)).trans (fr_ q hq))
            refine g_aload_n k rfl dX4_step_75 ?_
            refine g_get k 4 9 (C := RX4) (T := TX4) (N := 11) fl_X4_22 rfl wi_X4 (by decide) rfl ha__7 rfl dX4_step_76 ?_
            refine g_get k 7 1 (C := RX7) (T := TX7) (N := 2) fl_X4_116 rfl wi_X7 (by decide) rfl ht__7 rfl dX4_step_79 ?_
            refine g_aload_n k rfl dX4_step_82 ?_
            refine g_get k 4 5 (C := RX4) (T := TX4) (N := 11) fl_X4_34 rfl wi_X4 (by decide) rfl ha__7 rfl dX4_step_83 ?_
            refine g_iald k p hb__7 (by omega) (by omega) (by decide) dX4_step_86 ?_
            refine g_cSi k (As := [vi (T p)]) v_X4_isLetter ml_X4_124 (c_X4_isLetter (hBy p)) (by omega) (by omega) rfl (Nat.le_of_ble_eq_true rfl) rfl dX4_step_87 (fun r87_1 h87_1 p87_1 => ?_)
            obtain ⟨eh87_1, p87_1⟩ := p87_1
            have eh87_1 := eh87_1.symm; subst eh87_1
            have q87 := p87_1
            have q87r := q87.r
            have hbp := hBy p
            refine g_if_eq k (tgt := 100) (by omega) dX4_step_90 (by decide) (fun c90_1 => ?_) (fun c90_1 => ?_)
            · skip
              have K123_1 : ∀ (tz : Int) (htz : tz = if T p = 59 then 2 else 3), Go G X 1 QQ 0 0 nx 123 [(0, .ref a)] [vi tz, .ref a] h72_1 := by
                intro tz htz
                refine g_put k 4 6 (C := RX4) (T := TX4) (N := 11) fl_X4_57 rfl wi_X4 tyX4 tyX4_ok nmX4 (by decide) rfl rfl rfl rfl ha__7 (Nat.le_of_ble_eq_true rfl) (fs2 := [vi ft, .ref (a + 1), vi fp, vi (lm0 : Int), vi (p : Int), vi (p : Int), vi tz, vl wd, .ref (a + 5), .ref t, .ref r]) rfl rfl dX4_step_123 (fun h123_1 eh123_1 => ?_)
                have ha__8 : h123_1 a = some (ob 4 [vi ft, .ref (a + 1), vi fp, vi (lm0 : Int), vi (p : Int), vi (p : Int), vi tz, vl wd, .ref (a + 5), .ref t, .ref r]) := (congrFun eh123_1 _).trans hup_s
                have hn__8 : h123_1 (a + 5) = some (al G 8 NM) := (congrFun eh123_1 _).trans ((hup_n (by omega)).trans hn__7)
                have ht__8 : h123_1 t = some (ob 7 [vi (n : Int), .ref (t + 1)]) := (congrFun eh123_1 _).trans ((hup_n (by omega)).trans ht__7)
                have hb__8 : h123_1 (t + 1) = some (ai G 740 T) := (congrFun eh123_1 _).trans ((hup_n (by omega)).trans hb__7)
                have fr__8 : ∀ q : Nat, (q < a ∨ a < q) → h123_1 q = h q := fun q hq => (congrFun eh123_1 q).trans ((hup_n (by omega)).trans (fr__7 q hq))
                refine g_aload_n k rfl dX4_step_126 ?_
                refine g_dup k rfl dX4_step_127 ?_
                refine g_get k 4 5 (C := RX4) (T := TX4) (N := 11) fl_X4_34 rfl wi_X4 (by decide) rfl ha__8 rfl dX4_step_128 ?_
                refine g_iconst k dX4_step_131 ?_
                refine g_iadd k dX4_step_132 ?_
                refine g_put k 4 5 (C := RX4) (T := TX4) (N := 11) fl_X4_34 rfl wi_X4 tyX4 tyX4_ok nmX4 (by decide) rfl rfl rfl rfl ha__8 (Nat.le_of_ble_eq_true rfl) (fs2 := [vi ft, .ref (a + 1), vi fp, vi (lm0 : Int), vi (p : Int), vi ((p : Int) + 1), vi tz, vl wd, .ref (a + 5), .ref t, .ref r]) rfl rfl dX4_step_133 (fun h133_1 eh133_1 => ?_)
                have ha__9 : h133_1 a = some (ob 4 [vi ft, .ref (a + 1), vi fp, vi (lm0 : Int), vi (p : Int), vi ((p : Int) + 1), vi tz, vl wd, .ref (a + 5), .ref t, .ref r]) := (congrFun eh133_1 _).trans hup_s
                have hn__9 : h133_1 (a + 5) = some (al G 8 NM) := (congrFun eh133_1 _).trans ((hup_n (by omega)).trans hn__8)
                have ht__9 : h133_1 t = some (ob 7 [vi (n : Int), .ref (t + 1)]) := (congrFun eh133_1 _).trans ((hup_n (by omega)).trans ht__8)
                have hb__9 : h133_1 (t + 1) = some (ai G 740 T) := (congrFun eh133_1 _).trans ((hup_n (by omega)).trans hb__8)
                have fr__9 : ∀ q : Nat, (q < a ∨ a < q) → h133_1 q = h q := fun q hq => (congrFun eh133_1 q).trans ((hup_n (by omega)).trans (fr__8 q hq))
                rw [← hQQ]
                refine g_retv k rfl dX4_step_136 ?_
                unfold stF
                rw [ep, if_neg (by omega), if_neg (q87.f (by omega))]
                refine ⟨⟨?_, hn__9⟩, fr__9⟩
                rw [show (((if T p = 59 then 2 else 3 : Nat)) : Int) = tz by rw [htz]; split <;> rfl]
                exact ha__9
              refine g_aload_n k rfl dX4_step_100 ?_
              refine g_aload_n k rfl dX4_step_101 ?_
              refine g_get k 4 9 (C := RX4) (T := TX4) (N := 11) fl_X4_22 rfl wi_X4 (by decide) rfl ha__7 rfl dX4_step_102 ?_
              refine g_get k 7 1 (C := RX7) (T := TX7) (N := 2) fl_X4_116 rfl wi_X7 (by decide) rfl ht__7 rfl dX4_step_105 ?_
              refine g_aload_n k rfl dX4_step_108 ?_
              refine g_get k 4 5 (C := RX4) (T := TX4) (N := 11) fl_X4_34 rfl wi_X4 (by decide) rfl ha__7 rfl dX4_step_109 ?_
              refine g_iald k p hb__7 (by omega) (by omega) (by decide) dX4_step_112 ?_
              refine g_bipush k rfl dX4_step_113 ?_
              refine g_icmp_ne k (tgt := 122) (by omega) (by omega) dX4_step_115 (by decide) (fun c115_1 => ?_) (fun c115_1 => ?_)
              · skip
                refine g_iconst k dX4_step_122 ?_
                exact K123_1 _ (by rw [if_neg (by omega)])
              · skip
                refine g_iconst k dX4_step_118 ?_
                refine g_goto k (tgt := 123) dX4_step_119 (by decide) ?_
                exact K123_1 _ (by rw [if_pos (by omega)])
            · skip
              refine g_aload_n k rfl dX4_step_93 ?_
              refine g_cVv k 4 (As := []) v_X4_readWord rfl rfl ha__7 ml_X4_127 (c_X4_readWord ⟨ha__7, hn__7⟩ ⟨ht__7, hb__7⟩ hn7 hBy hda (by omega)) (by omega) (by omega) rfl (Nat.le_of_ble_eq_true rfl) rfl dX4_step_94 (fun h94_1 p94_1 => ?_)
              obtain ⟨⟨na, nn⟩, nfr⟩ := p94_1
              have ht__10 : h94_1 t = some (ob 7 [vi (n : Int), .ref (t + 1)]) := (nfr _ (by omega)).trans ht__7
              have hb__10 : h94_1 (t + 1) = some (ai G 740 T) := (nfr _ (by omega)).trans hb__7
              have fr__10 : ∀ q : Nat, (q < a ∨ a < q) → h94_1 q = h q := fun q hq => (nfr q (by omega)).trans (fr__7 q hq)
              refine g_goto k (tgt := 136) dX4_step_97 (by decide) ?_
              rw [← hQQ]
              refine g_retv k rfl dX4_step_136 ?_
              unfold stF
              rw [ep, if_neg (by omega), if_pos (q87.t (by omega))]
              refine ⟨⟨?_, nn⟩, fr__10⟩
              rw [show (((if leF T (n - p) p - p ≤ 7 then 1 else 3 : Nat)) : Int) = (if leF T (n - p) p - p ≤ 7 then 1 else 3) by split <;> rfl]
              exact na
          · skip
            refine g_aload_n k rfl dX4_step_53 ?_
            refine g_iconst k dX4_step_54 ?_
            refine g_put k 4 6 (C := RX4) (T := TX4) (N := 11) fl_X4_57 rfl wi_X4 tyX4 tyX4_ok nmX4 (by decide) rfl rfl rfl rfl ha_ (Nat.le_of_ble_eq_true rfl) (fs2 := [vi ft, .ref (a + 1), vi fp, vi (lm0 : Int), vi pl, vi (p : Int), vi 0, vl wd, .ref (a + 5), .ref t, .ref r]) rfl rfl dX4_step_55 (fun h55_1 eh55_1 => ?_)
            have ha__11 : h55_1 a = some (ob 4 [vi ft, .ref (a + 1), vi fp, vi (lm0 : Int), vi pl, vi (p : Int), vi 0, vl wd, .ref (a + 5), .ref t, .ref r]) := (congrFun eh55_1 _).trans hup_s
            have hn__11 : h55_1 (a + 5) = some (al G 8 NM) := (congrFun eh55_1 _).trans ((hup_n (by omega)).trans hn_)
            have ht__11 : h55_1 t = some (ob 7 [vi (n : Int), .ref (t + 1)]) := (congrFun eh55_1 _).trans ((hup_n (by omega)).trans ht_)
            have hb__11 : h55_1 (t + 1) = some (ai G 740 T) := (congrFun eh55_1 _).trans ((hup_n (by omega)).trans hb_)
            have fr__11 : ∀ q : Nat, (q < a ∨ a < q) → h55_1 q = h q := fun q hq => (congrFun eh55_1 q).trans ((hup_n (by omega)).trans (fr_ q hq))
            refine g_aload_n k rfl dX4_step_58 ?_
            refine g_aload_n k rfl dX4_step_59 ?_
            refine g_get k 4 3 (C := RX4) (T := TX4) (N := 11) fl_X4_48 rfl wi_X4 (by decide) rfl ha__11 rfl dX4_step_60 ?_
            refine g_put k 4 4 (C := RX4) (T := TX4) (N := 11) fl_X4_86 rfl wi_X4 tyX4 tyX4_ok nmX4 (by decide) rfl rfl rfl rfl ha__11 (Nat.le_of_ble_eq_true rfl) (fs2 := [vi ft, .ref (a + 1), vi fp, vi (lm0 : Int), vi (lm0 : Int), vi (p : Int), vi 0, vl wd, .ref (a + 5), .ref t, .ref r]) rfl rfl dX4_step_63 (fun h63_1 eh63_1 => ?_)
            have ha__12 : h63_1 a = some (ob 4 [vi ft, .ref (a + 1), vi fp, vi (lm0 : Int), vi (lm0 : Int), vi (p : Int), vi 0, vl wd, .ref (a + 5), .ref t, .ref r]) := (congrFun eh63_1 _).trans hup_s
            have hn__12 : h63_1 (a + 5) = some (al G 8 NM) := (congrFun eh63_1 _).trans ((hup_n (by omega)).trans hn__11)
            have ht__12 : h63_1 t = some (ob 7 [vi (n : Int), .ref (t + 1)]) := (congrFun eh63_1 _).trans ((hup_n (by omega)).trans ht__11)
            have hb__12 : h63_1 (t + 1) = some (ai G 740 T) := (congrFun eh63_1 _).trans ((hup_n (by omega)).trans hb__11)
            have fr__12 : ∀ q : Nat, (q < a ∨ a < q) → h63_1 q = h q := fun q hq => (congrFun eh63_1 q).trans ((hup_n (by omega)).trans (fr__11 q hq))
            rw [← hQQ]
            refine g_retv k rfl dX4_step_66 ?_
            unfold stF
            rw [ep, if_pos (by omega)]
            exact ⟨⟨ha__12, hn__12⟩, fr__12⟩
        · skip
          refine g_aload_n k rfl dX4_step_29 ?_
          refine g_dup k rfl dX4_step_30 ?_
          refine g_get k 4 5 (C := RX4) (T := TX4) (N := 11) fl_X4_34 rfl wi_X4 (by decide) rfl ha_ rfl dX4_step_31 ?_
          refine g_iconst k dX4_step_34 ?_
          refine g_iadd k dX4_step_35 ?_
          refine g_put k 4 5 (C := RX4) (T := TX4) (N := 11) fl_X4_34 rfl wi_X4 tyX4 tyX4_ok nmX4 (by decide) rfl rfl rfl rfl ha_ (Nat.le_of_ble_eq_true rfl) (fs2 := [vi ft, .ref (a + 1), vi fp, vi (lm0 : Int), vi pl, vi ((p : Int) + 1), vi tk, vl wd, .ref (a + 5), .ref t, .ref r]) rfl rfl dX4_step_36 (fun h36 eh36 => ?_)
          have ha__13 : h36 a = some (ob 4 [vi ft, .ref (a + 1), vi fp, vi (lm0 : Int), vi pl, vi ((p : Int) + 1), vi tk, vl wd, .ref (a + 5), .ref t, .ref r]) := (congrFun eh36 _).trans hup_s
          have hn__13 : h36 (a + 5) = some (al G 8 NM) := (congrFun eh36 _).trans ((hup_n (by omega)).trans hn_)
          have ht__13 : h36 t = some (ob 7 [vi (n : Int), .ref (t + 1)]) := (congrFun eh36 _).trans ((hup_n (by omega)).trans ht_)
          have hb__13 : h36 (t + 1) = some (ai G 740 T) := (congrFun eh36 _).trans ((hup_n (by omega)).trans hb_)
          have fr__13 : ∀ q : Nat, (q < a ∨ a < q) → h36 q = h q := fun q hq => (congrFun eh36 q).trans ((hup_n (by omega)).trans (fr_ q hq))
          refine g_goto k (tgt := 0) dX4_step_39 (by decide) ?_
          exact ih0 (p + 1) h36 ha__13 hn__13 ht__13 hb__13 fr__13 (by omega) (by rw [← hsk, show lm0 - p = lm0 - (p + 1) + 1 by omega, skF, if_pos (q23.t (by omega))]) (by omega)
  exact K0 _ nt0 h ha hn ht hb fr0 hnt rfl (Nat.lt_succ_self _)

