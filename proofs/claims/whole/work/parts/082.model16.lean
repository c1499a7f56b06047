/-! the reference: notes -/
def PlO (lm c : Nat) (t : Tk) : Prop := (t.1 ≠ 0 → c ≤ t.2.1 ∧ t.2.1 < lm ∧ t.2.1 + 1 ≤ t.2.2.1) ∧ (t.1 = 0 → t.2.1 = lm)
theorem st_pl {T : Nat → Int} {n lm nt c : Nat} {wd : Int} (hln : lm ≤ n) (h : c ≤ nt) : PlO lm c (stF T n lm nt wd) := by
  have hb := skF_b (T := T) (lm - nt) nt
  by_cases e : lm ≤ skF T (lm - nt) nt
  · rw [st_end e]
    exact ⟨fun q => absurd rfl q, fun _ => rfl⟩
  · by_cases g : isLt (T (skF T (lm - nt) nt))
    · rw [st_word rfl (by omega) g]
      have h1 : leF T (n - skF T (lm - nt) nt) (skF T (lm - nt) nt) = leF T (n - skF T (lm - nt) nt - 1) (skF T (lm - nt) nt + 1) := by
        rw [show n - skF T (lm - nt) nt = n - skF T (lm - nt) nt - 1 + 1 by omega, leF_y g]
        rfl
      have h2 := leF_b (T := T) (n - skF T (lm - nt) nt - 1) (skF T (lm - nt) nt + 1)
      refine ⟨fun _ => ⟨by dsimp only; omega, by dsimp only; omega, by dsimp only; omega⟩, fun q => ?_⟩
      dsimp only at q
      split at q <;> omega
    · rw [st_sign rfl (by omega) g]
      refine ⟨fun _ => ⟨by dsimp only; omega, by dsimp only; omega, by dsimp only; omega⟩, fun q => ?_⟩
      dsimp only at q
      split at q <;> omega
theorem rdL_end {T : Nat → Int} {n lm : Nat} {x : RS} {c : Nat} (h : x.1.1 = 0) : ∀ k, rdL T n lm k x c = (c, x)
  | 0 => rfl
  | k + 1 => by rw [rdL, if_pos h]
theorem rdB_y {T : Nat → Int} {n : Nat} {wd : Int} {NM : Nat → Int} {fp : Nat} {V : RV} {c : Nat} {y : RS} (h : rdA T n wd NM fp V = (c, y)) (h2 : ¬ (y.2.2.2.2.1 = 0 ∧ 700 < n)) : rdB T n wd NM fp V = (c, y) := by
  unfold rdB
  rw [h]
  dsimp only
  rw [if_neg h2]
theorem rdB_n {T : Nat → Int} {n : Nat} {wd : Int} {NM : Nat → Int} {fp : Nat} {V : RV} {c : Nat} {y : RS} (h : rdA T n wd NM fp V = (c, y)) (h2 : y.2.2.2.2.1 = 0 ∧ 700 < n) : rdB T n wd NM fp V = (c, (y.1, y.2.1, y.2.2.1, y.2.2.2.1, 1, 700, y.2.2.2.2.2.2)) := by
  unfold rdB
  rw [h]
  dsimp only
  rw [if_pos h2]
theorem rRow_i {T : Nat → Int} {n lm : Nat} {x : RS} (h : x.1.1 = 1 ∧ x.1.2.2.2 = 315565) : rRow T n lm x = rItem T n lm x := by rw [rRow, if_pos h]
theorem rRow_f {T : Nat → Int} {n lm : Nat} {x : RS} (h : ¬ (x.1.1 = 1 ∧ x.1.2.2.2 = 315565)) : rRow T n lm x = rFact T n lm x := by rw [rRow, if_neg h]
theorem rFact_n {T : Nat → Int} {n lm : Nat} {x : RS} (h : ¬ isNm (x.1.1 : Int) x.1.2.2.2) : rFact T n lm x = (False, (x.1, x.2.1, x.2.2.1, x.2.2.2.1, 1, x.1.2.1, x.2.2.2.2.2.2)) := by
  unfold rFact
  dsimp only
  rw [if_pos h]
set_option maxHeartbeats 600000 in
set_option maxRecDepth 100000 in
theorem c_X10_notes {G : Gx} {h : Hp} {nx m : Nat} {it : Nat} {φ : Fs} {ps : List (Nat × Fs)} {im : Nat → Option (Nat × Fs)} {V : RV} {n : Nat} {T : Nat → Int} {ft : Nat} (hM : MS G h m it φ ps im V n T ft) (hS : Sm it φ) (hn7 : n ≤ 740) (hBy : Byt T) (wd : Int) (NM : Nat → Int) (fp : Nat) : Con G yX10_notes cX10_notes 3 (some .int) 8 0 0 [.ref m] h nx (PI fun z h' => z = rdZ (rdB T n wd NM fp V) ∧ ((rdB T n wd NM fp V).2.2.2.2.2.1 = 0 → Good (rdB T n wd NM fp V).2.2.2.1) ∧ MT G h' m 0 (if (rdB T n wd NM fp V).2.2.2.2.2.1 = 0 then (rdB T n wd NM fp V).2.2.1 else it) (if (rdB T n wd NM fp V).2.2.2.2.2.1 = 0 then (rdB T n wd NM fp V).2.2.2.1 else φ) (if (rdB T n wd NM fp V).2.2.2.2.2.1 = 0 then [] else ps) im (rdB T n wd NM fp V).2.2.2.2.2.2.2 0 T (rdB T n wd NM fp V).2.2.2.2.2.1 ∧ ∀ q : Nat, (q < m ∨ m + 17 < q) → h' q = h q) := by
  obtain ⟨th, s, ⟨hm, cq1, cq2, cq3, cq4, cq5, cq6, cq7, cq8, cq9, cq10, cq11, cq12, cq13, cq14, cq15, cq16, cq17⟩, hsc, hth⟩ := hM
  obtain ⟨z1, z6, z9, z14, z17, z15, z16⟩ := id hsc
  obtain ⟨N, hn, hR⟩ := id cq2
  have hT := cq1
  obtain ⟨Nr, hr⟩ := id cq3
  obtain ⟨Ns, hs5, hsr5⟩ := id cq5
  obtain ⟨N9, h9⟩ := id cq9
  obtain ⟨Bt, hb⟩ := id cq12
  obtain ⟨R, hrr⟩ := id cq13
  obtain ⟨Q, hv, hq⟩ := id cq14
  have hln := lmF_le n
  have h28 := hS.2.1
  have z20 : (fu (fu (fu (fu (fu s 0 0) 1 0) 2 (s 1)) 3 0) 6 0) 2 = (n : Int) := z1
  refine Con.of v_X10_notes.2.2.2.2.2.1 (Nat.le_of_ble_eq_true rfl) (lv := [(0, .ref m)]) rfl (fun X k => ?_)
  generalize hQQ : QM G X nx 0 0 _ = QQ
  have fr0 : ∀ q : Nat, (q ≠ m ∧ q ≠ m + 2 ∧ q ≠ m + 3 ∧ q ≠ m + 9 ∧ q ≠ m + 12 ∧ q ≠ m + 13 ∧ q ≠ m + 14) → h q = h q := fun _ _ => rfl
  refine g_aload_n k rfl dX10_notes_0 ?_
  refine g_iconst k dX10_notes_1 ?_
  refine g_put k 10 0 (C := RX10) (T := TX10) (N := 38) fl_X10_1 rfl wi_X10 tyX10 tyX10_ok nmX10 (by decide) rfl rfl rfl rfl hm (Nat.le_of_ble_eq_true rfl) (fs2 := mol m (fu s 0 0)) rfl rfl dX10_notes_2 (fun h2 eh2 => ?_)
  have hm_ : h2 m = some (mo m (fu s 0 0)) := (congrFun eh2 _).trans hup_s
  have hn_ : h2 (m + 2) = some (ai G 86 N) := (congrFun eh2 _).trans ((hup_n (by omega)).trans hn)
  have hT_ : h2 (m + 1) = some (ai G 740 T) := (congrFun eh2 _).trans ((hup_n (by omega)).trans hT)
  have hr_ : h2 (m + 3) = some (ai G 86 Nr) := (congrFun eh2 _).trans ((hup_n (by omega)).trans hr)
  have hs5_ : h2 (m + 5) = some (ai G 688 Ns) := (congrFun eh2 _).trans ((hup_n (by omega)).trans hs5)
  have h9_ : h2 (m + 9) = some (al G 8 N9) := (congrFun eh2 _).trans ((hup_n (by omega)).trans h9)
  have hb_ : h2 (m + 12) = some (ai G 72 Bt) := (congrFun eh2 _).trans ((hup_n (by omega)).trans hb)
  have hrr_ : h2 (m + 13) = some (ai G 8 R) := (congrFun eh2 _).trans ((hup_n (by omega)).trans hrr)
  have hv_ : h2 (m + 14) = some (ai G 8 Q) := (congrFun eh2 _).trans ((hup_n (by omega)).trans hv)
  have fr_ : ∀ q : Nat, (q ≠ m ∧ q ≠ m + 2 ∧ q ≠ m + 3 ∧ q ≠ m + 9 ∧ q ≠ m + 12 ∧ q ≠ m + 13 ∧ q ≠ m + 14) → h2 q = h q := fun q hq => (congrFun eh2 q).trans ((hup_n (by omega)).trans (fr0 q hq))
  refine g_aload_n k rfl dX10_notes_5 ?_
  refine g_aload_n k rfl dX10_notes_6 ?_
  refine g_get k 10 2 (v := vi (s 1)) (C := RX10) (T := TX10) (N := 38) fl_X10_11 rfl wi_X10 (by decide) rfl hm_ rfl dX10_notes_7 ?_
  refine g_put k 10 3 (C := RX10) (T := TX10) (N := 38) fl_X10_18 rfl wi_X10 tyX10 tyX10_ok nmX10 (by decide) rfl rfl rfl rfl hm_ (Nat.le_of_ble_eq_true rfl) (fs2 := mol m (fu (fu s 0 0) 2 (s 1))) rfl rfl dX10_notes_10 (fun h10 eh10 => ?_)
  have hm__1 : h10 m = some (mo m (fu (fu s 0 0) 2 (s 1))) := (congrFun eh10 _).trans hup_s
  have hn__1 : h10 (m + 2) = some (ai G 86 N) := (congrFun eh10 _).trans ((hup_n (by omega)).trans hn_)
  have hT__1 : h10 (m + 1) = some (ai G 740 T) := (congrFun eh10 _).trans ((hup_n (by omega)).trans hT_)
  have hr__1 : h10 (m + 3) = some (ai G 86 Nr) := (congrFun eh10 _).trans ((hup_n (by omega)).trans hr_)
  have hs5__1 : h10 (m + 5) = some (ai G 688 Ns) := (congrFun eh10 _).trans ((hup_n (by omega)).trans hs5_)
  have h9__1 : h10 (m + 9) = some (al G 8 N9) := (congrFun eh10 _).trans ((hup_n (by omega)).trans h9_)
  have hb__1 : h10 (m + 12) = some (ai G 72 Bt) := (congrFun eh10 _).trans ((hup_n (by omega)).trans hb_)
  have hrr__1 : h10 (m + 13) = some (ai G 8 R) := (congrFun eh10 _).trans ((hup_n (by omega)).trans hrr_)
  have hv__1 : h10 (m + 14) = some (ai G 8 Q) := (congrFun eh10 _).trans ((hup_n (by omega)).trans hv_)
  have fr__1 : ∀ q : Nat, (q ≠ m ∧ q ≠ m + 2 ∧ q ≠ m + 3 ∧ q ≠ m + 9 ∧ q ≠ m + 12 ∧ q ≠ m + 13 ∧ q ≠ m + 14) → h10 q = h q := fun q hq => (congrFun eh10 q).trans ((hup_n (by omega)).trans (fr_ q hq))
  refine g_aload_n k rfl dX10_notes_13 ?_
  refine g_iconst k dX10_notes_14 ?_
  refine g_put k 10 2 (C := RX10) (T := TX10) (N := 38) fl_X10_11 rfl wi_X10 tyX10 tyX10_ok nmX10 (by decide) rfl rfl rfl rfl hm__1 (Nat.le_of_ble_eq_true rfl) (fs2 := mol m (fu (fu (fu s 0 0) 1 0) 2 (s 1))) rfl rfl dX10_notes_15 (fun h15 eh15 => ?_)
  have hm__2 : h15 m = some (mo m (fu (fu (fu s 0 0) 1 0) 2 (s 1))) := (congrFun eh15 _).trans hup_s
  have hn__2 : h15 (m + 2) = some (ai G 86 N) := (congrFun eh15 _).trans ((hup_n (by omega)).trans hn__1)
  have hT__2 : h15 (m + 1) = some (ai G 740 T) := (congrFun eh15 _).trans ((hup_n (by omega)).trans hT__1)
  have hr__2 : h15 (m + 3) = some (ai G 86 Nr) := (congrFun eh15 _).trans ((hup_n (by omega)).trans hr__1)
  have hs5__2 : h15 (m + 5) = some (ai G 688 Ns) := (congrFun eh15 _).trans ((hup_n (by omega)).trans hs5__1)
  have h9__2 : h15 (m + 9) = some (al G 8 N9) := (congrFun eh15 _).trans ((hup_n (by omega)).trans h9__1)
  have hb__2 : h15 (m + 12) = some (ai G 72 Bt) := (congrFun eh15 _).trans ((hup_n (by omega)).trans hb__1)
  have hrr__2 : h15 (m + 13) = some (ai G 8 R) := (congrFun eh15 _).trans ((hup_n (by omega)).trans hrr__1)
  have hv__2 : h15 (m + 14) = some (ai G 8 Q) := (congrFun eh15 _).trans ((hup_n (by omega)).trans hv__1)
  have fr__2 : ∀ q : Nat, (q ≠ m ∧ q ≠ m + 2 ∧ q ≠ m + 3 ∧ q ≠ m + 9 ∧ q ≠ m + 12 ∧ q ≠ m + 13 ∧ q ≠ m + 14) → h15 q = h q := fun q hq => (congrFun eh15 q).trans ((hup_n (by omega)).trans (fr__1 q hq))
  refine g_aload_n k rfl dX10_notes_18 ?_
  refine g_iconst k dX10_notes_19 ?_
  refine g_put k 10 7 (C := RX10) (T := TX10) (N := 38) fl_X10_58 rfl wi_X10 tyX10 tyX10_ok nmX10 (by decide) rfl rfl rfl rfl hm__2 (Nat.le_of_ble_eq_true rfl) (fs2 := mol m (fu (fu (fu (fu s 0 0) 1 0) 2 (s 1)) 6 0)) rfl rfl dX10_notes_20 (fun h20 eh20 => ?_)
  have hm__3 : h20 m = some (mo m (fu (fu (fu (fu s 0 0) 1 0) 2 (s 1)) 6 0)) := (congrFun eh20 _).trans hup_s
  have hn__3 : h20 (m + 2) = some (ai G 86 N) := (congrFun eh20 _).trans ((hup_n (by omega)).trans hn__2)
  have hT__3 : h20 (m + 1) = some (ai G 740 T) := (congrFun eh20 _).trans ((hup_n (by omega)).trans hT__2)
  have hr__3 : h20 (m + 3) = some (ai G 86 Nr) := (congrFun eh20 _).trans ((hup_n (by omega)).trans hr__2)
  have hs5__3 : h20 (m + 5) = some (ai G 688 Ns) := (congrFun eh20 _).trans ((hup_n (by omega)).trans hs5__2)
  have h9__3 : h20 (m + 9) = some (al G 8 N9) := (congrFun eh20 _).trans ((hup_n (by omega)).trans h9__2)
  have hb__3 : h20 (m + 12) = some (ai G 72 Bt) := (congrFun eh20 _).trans ((hup_n (by omega)).trans hb__2)
  have hrr__3 : h20 (m + 13) = some (ai G 8 R) := (congrFun eh20 _).trans ((hup_n (by omega)).trans hrr__2)
  have hv__3 : h20 (m + 14) = some (ai G 8 Q) := (congrFun eh20 _).trans ((hup_n (by omega)).trans hv__2)
  have fr__3 : ∀ q : Nat, (q ≠ m ∧ q ≠ m + 2 ∧ q ≠ m + 3 ∧ q ≠ m + 9 ∧ q ≠ m + 12 ∧ q ≠ m + 13 ∧ q ≠ m + 14) → h20 q = h q := fun q hq => (congrFun eh20 q).trans ((hup_n (by omega)).trans (fr__2 q hq))
  refine g_aload_n k rfl dX10_notes_23 ?_
  refine g_iconst k dX10_notes_24 ?_
  refine g_put k 10 4 (C := RX10) (T := TX10) (N := 38) fl_X10_21 rfl wi_X10 tyX10 tyX10_ok nmX10 (by decide) rfl rfl rfl rfl hm__3 (Nat.le_of_ble_eq_true rfl) (fs2 := mol m (fu (fu (fu (fu (fu s 0 0) 1 0) 2 (s 1)) 3 0) 6 0)) rfl rfl dX10_notes_25 (fun h25 eh25 => ?_)
  have hm__4 : h25 m = some (mo m (fu (fu (fu (fu (fu s 0 0) 1 0) 2 (s 1)) 3 0) 6 0)) := (congrFun eh25 _).trans hup_s
  have hn__4 : h25 (m + 2) = some (ai G 86 N) := (congrFun eh25 _).trans ((hup_n (by omega)).trans hn__3)
  have hT__4 : h25 (m + 1) = some (ai G 740 T) := (congrFun eh25 _).trans ((hup_n (by omega)).trans hT__3)
  have hr__4 : h25 (m + 3) = some (ai G 86 Nr) := (congrFun eh25 _).trans ((hup_n (by omega)).trans hr__3)
  have hs5__4 : h25 (m + 5) = some (ai G 688 Ns) := (congrFun eh25 _).trans ((hup_n (by omega)).trans hs5__3)
  have h9__4 : h25 (m + 9) = some (al G 8 N9) := (congrFun eh25 _).trans ((hup_n (by omega)).trans h9__3)
  have hb__4 : h25 (m + 12) = some (ai G 72 Bt) := (congrFun eh25 _).trans ((hup_n (by omega)).trans hb__3)
  have hrr__4 : h25 (m + 13) = some (ai G 8 R) := (congrFun eh25 _).trans ((hup_n (by omega)).trans hrr__3)
  have hv__4 : h25 (m + 14) = some (ai G 8 Q) := (congrFun eh25 _).trans ((hup_n (by omega)).trans hv__3)
  have fr__4 : ∀ q : Nat, (q ≠ m ∧ q ≠ m + 2 ∧ q ≠ m + 3 ∧ q ≠ m + 9 ∧ q ≠ m + 12 ∧ q ≠ m + 13 ∧ q ≠ m + 14) → h25 q = h q := fun q hq => (congrFun eh25 q).trans ((hup_n (by omega)).trans (fr__3 q hq))
  refine g_iconst k dX10_notes_28 ?_
  refine g_istore_n k (lv2 := [(0, .ref m), (1, vi 0)]) (by decide) rfl rfl dX10_notes_29 ?_
  refine g_iconst k dX10_notes_30 ?_
  refine g_istore_n k (lv2 := [(0, .ref m), (1, vi 0), (2, vi 0)]) (by decide) rfl rfl dX10_notes_31 ?_
  have K32 : ∀ (nz : Nat) (v : Nat) (N3 : Nat → Int) (h32 : Hp) (hm__5 : h32 m = some (mo m (fu (fu (fu (fu (fu s 0 0) 1 0) 2 (s 1)) 3 0) 6 0))) (hn__5 : h32 (m + 2) = some (ai G 86 N)) (hT__5 : h32 (m + 1) = some (ai G 740 T)) (hr__5 : h32 (m + 3) = some (ai G 86 N3)) (hs5__5 : h32 (m + 5) = some (ai G 688 Ns)) (h9__5 : h32 (m + 9) = some (al G 8 N9)) (hb__5 : h32 (m + 12) = some (ai G 72 Bt)) (hrr__5 : h32 (m + 13) = some (ai G 8 R)) (hv__5 : h32 (m + 14) = some (ai G 8 Q)) (fr__5 : ∀ q : Nat, (q ≠ m ∧ q ≠ m + 2 ∧ q ≠ m + 3 ∧ q ≠ m + 9 ∧ q ≠ m + 12 ∧ q ≠ m + 13 ∧ q ≠ m + 14) → h32 q = h q) (hv3 : v ≤ 86) (hN3 : ∀ j, j < v → N3 j = 0) (hmz : 86 - v < nz), Go G X 3 QQ 0 0 nx 32 [(0, .ref m), (1, vi 0), (2, vi (v : Int))] [] h32 := by
    intro nz
    induction nz with
    | zero => intro v N3 h32 hm__5 hn__5 hT__5 hr__5 hs5__5 h9__5 hb__5 hrr__5 hv__5 fr__5 hv3 hN3 hmz; exact absurd hmz (Nat.not_lt_zero _)
    | succ nz ih32 =>
      intro v N3 h32 hm__5 hn__5 hT__5 hr__5 hs5__5 h9__5 hb__5 hrr__5 hv__5 fr__5 hv3 hN3 hmz
      refine g_iload_n k rfl dX10_notes_32 ?_
      refine g_bipush k rfl dX10_notes_33 ?_
      refine g_icmp_ge k (tgt := 51) (by omega) (by omega) dX10_notes_35 (by decide) (fun c35 => ?_) (fun c35 => ?_)
      · skip
        have ev86 : v = 86 := by omega
        rw [ev86] at hN3
        refine g_aload_n k rfl dX10_notes_51 ?_
        refine g_cVv k 10 (As := []) v_X10_next rfl rfl hm__5 ml_X10_130 (c_X10_next hm__5 hT__5 (nt0 := 0) z20 hn7 hBy rfl (Nat.zero_le n) (lm := (lmF n)) rfl wd) (by omega) (by omega) rfl (Nat.le_of_ble_eq_true rfl) rfl dX10_notes_52 (fun h52 p52 => ?_)
        obtain ⟨⟨s1, nm1, hk1, hT1⟩, nfr1⟩ := p52
        have hm__6 : h52 m = some (mo m s1) := nm1
        have hn__6 : h52 (m + 2) = some (ai G 86 N) := (nfr1 _ (by omega)).trans hn__5
        have hT__6 : h52 (m + 1) = some (ai G 740 T) := (nfr1 _ (by omega)).trans hT__5
        have hr__6 : h52 (m + 3) = some (ai G 86 N3) := (nfr1 _ (by omega)).trans hr__5
        have hs5__6 : h52 (m + 5) = some (ai G 688 Ns) := (nfr1 _ (by omega)).trans hs5__5
        have h9__6 : h52 (m + 9) = some (al G 8 N9) := (nfr1 _ (by omega)).trans h9__5
        have hb__6 : h52 (m + 12) = some (ai G 72 Bt) := (nfr1 _ (by omega)).trans hb__5
        have hrr__6 : h52 (m + 13) = some (ai G 8 R) := (nfr1 _ (by omega)).trans hrr__5
        have hv__6 : h52 (m + 14) = some (ai G 8 Q) := (nfr1 _ (by omega)).trans hv__5
        have fr__6 : ∀ q : Nat, (q ≠ m ∧ q ≠ m + 2 ∧ q ≠ m + 3 ∧ q ≠ m + 9 ∧ q ≠ m + 12 ∧ q ≠ m + 13 ∧ q ≠ m + 14) → h52 q = h q := fun q hq => (nfr1 q (by omega)).trans (fr__5 q hq)
        have hC0 : MRC G h52 m (fu (fu (fu (fu (fu s 0 0) 1 0) 2 (s 1)) 3 0) 6 0) T ((stF T n (lmF n) 0 wd, 0, [], NM, 0, fp, V) : RS) s1 := ⟨hm__6, fun j hj => hk1 j (by omega), hT__6, ⟨_, hr__6, ⟨hN3 0 (by omega), hN3 1 (by omega), fun i hi => absurd hi (Nat.not_lt_zero i)⟩⟩, ⟨_, h9__6, fun i hi => absurd hi (Nat.not_lt_zero i)⟩, ⟨_, hb__6⟩, ⟨_, hrr__6⟩, ⟨Q, hv__6, hq⟩, ⟨(hk1 14 (by omega)).trans z14, (hk1 17 (by omega)).trans z17, (hk1 15 (by omega)).trans z15, (hk1 16 (by omega)).trans z16⟩, hk1 6 (by omega)⟩
        have K55 : ∀ (nz_1 : Nat) (x : RS) (c : Nat) (kf : Nat) (sx : Nat → Int) (h55 : Hp) (hm__7 : h55 m = some (mo m sx)) (hn__7 : h55 (m + 2) = some (ai G 86 N)) (hs5__7 : h55 (m + 5) = some (ai G 688 Ns)) (fr__7 : ∀ q : Nat, (q ≠ m ∧ q ≠ m + 2 ∧ q ≠ m + 3 ∧ q ≠ m + 9 ∧ q ≠ m + 12 ∧ q ≠ m + 13 ∧ q ≠ m + 14) → h55 q = h q) (hC : MRC G h55 m (fu (fu (fu (fu (fu s 0 0) 1 0) 2 (s 1)) 3 0) 6 0) T x sx) (hK : TkR n x.1 sx) (hO : TkO n x.1) (hSx : Sm x.2.1 x.2.2.1) (hGx : Good x.2.2.1) (hft : x.2.2.2.2.1 = 0) (hpl : PlO (lmF n) c x.1) (hck : c + kf = 700) (hrd : rdL T n (lmF n) kf x c = rdL T n (lmF n) 700 ((stF T n (lmF n) 0 wd, 0, [], NM, 0, fp, V) : RS) 0) (hmz_1 : kf < nz_1), Go G X 3 QQ 0 0 nx 55 [(0, .ref m), (1, vi (c : Int))] [] h55 := by
          intro nz_1
          induction nz_1 with
          | zero => intro x c kf sx h55 hm__7 hn__7 hs5__7 fr__7 hC hK hO hSx hGx hft hpl hck hrd hmz_1; exact absurd hmz_1 (Nat.not_lt_zero _)
          | succ nz_1 ih55 =>
            intro x c kf sx h55 hm__7 hn__7 hs5__7 fr__7 hC hK hO hSx hGx hft hpl hck hrd hmz_1
            have hs5r := (hK.w hO.1).2.1
            refine g_aload_n k rfl dX10_notes_55 ?_
            refine g_get k 10 6 (C := RX10) (T := TX10) (N := 38) fl_X10_27 rfl wi_X10 (by decide) rfl hm__7 rfl dX10_notes_56 ?_
            refine g_if_eq k (tgt := 113) (by omega) dX10_notes_59 (by decide) (fun c59 => ?_) (fun c59 => ?_)
            · skip
              have hend := (hK.w hO.1).2.2.2.2.mp (by omega)
              have ey : rdA T n wd NM fp V = (c, x) := by
                show rdL T n (lmF n) 700 ((stF T n (lmF n) 0 wd, 0, [], NM, 0, fp, V) : RS) 0 = _
                rw [← hrd, rdL_end hend.1]
              have eb := rdB_y ey (fun q => by have := q.2; have := hend.2; omega)
              obtain ⟨-, hms9, hT9, ⟨Nr9, hr9, hRr9⟩, ⟨Nn9, hn9, hNn9⟩, hb9, hrr9, hv9, hV9, z69⟩ := id hC
              refine g_aload_n k rfl dX10_notes_113 ?_
              refine g_get k 10 11 (C := RX10) (T := TX10) (N := 38) fl_X10_77 rfl wi_X10 (by decide) rfl hm__7 rfl dX10_notes_114 ?_
              refine g_iconst k dX10_notes_117 ?_
              refine g_aload_n k rfl dX10_notes_118 ?_
              refine g_get k 10 10 (C := RX10) (T := TX10) (N := 38) fl_X10_74 rfl wi_X10 (by decide) rfl hm__7 rfl dX10_notes_119 ?_
              refine g_iconst k dX10_notes_122 ?_
              refine g_cSv k (As := [.ref (m + 3), vi 0, .ref (m + 2), vi 0]) v_X10_copy ml_X10_163 (c_X10_copy (st := 0) (to := 0) hr9 hn__7 (by omega) (by omega) (by omega) (by omega) (by omega)) (by omega) (by omega) rfl (Nat.le_of_ble_eq_true rfl) rfl dX10_notes_123 (fun h123 p123 => ?_)
              obtain ⟨nn, nfr3⟩ := p123
              have hm__8 : h123 m = some (mo m sx) := (nfr3 _ (by omega)).trans hm__7
              have hn__8 : h123 (m + 2) = some (ai G 86 (cpF Nr9 0 N 0 86)) := nn
              have hs5__8 : h123 (m + 5) = some (ai G 688 Ns) := (nfr3 _ (by omega)).trans hs5__7
              have hr__7 : h123 (m + 3) = some (ai G 86 Nr9) := (nfr3 _ (by omega)).trans hr9
              have fr__8 : ∀ q : Nat, (q ≠ m ∧ q ≠ m + 2 ∧ q ≠ m + 3 ∧ q ≠ m + 9 ∧ q ≠ m + 12 ∧ q ≠ m + 13 ∧ q ≠ m + 14) → h123 q = h q := fun q hq => (nfr3 q (by omega)).trans (fr__7 q hq)
              refine g_aload_n k rfl dX10_notes_126 ?_
              refine g_iconst k dX10_notes_127 ?_
              refine g_put k 10 19 (C := RX10) (T := TX10) (N := 38) fl_X10_167 rfl wi_X10 tyX10 tyX10_ok nmX10 (by decide) rfl rfl rfl rfl hm__8 (Nat.le_of_ble_eq_true rfl) (fs2 := mol m (fu sx 9 0)) rfl rfl dX10_notes_128 (fun h128 eh128 => ?_)
              have hm__9 : h128 m = some (mo m (fu sx 9 0)) := (congrFun eh128 _).trans hup_s
              have hn__9 : h128 (m + 2) = some (ai G 86 (cpF Nr9 0 N 0 86)) := (congrFun eh128 _).trans ((hup_n (by omega)).trans hn__8)
              have hs5__9 : h128 (m + 5) = some (ai G 688 Ns) := (congrFun eh128 _).trans ((hup_n (by omega)).trans hs5__8)
              have hr__8 : h128 (m + 3) = some (ai G 86 Nr9) := (congrFun eh128 _).trans ((hup_n (by omega)).trans hr__7)
              have fr__9 : ∀ q : Nat, (q ≠ m ∧ q ≠ m + 2 ∧ q ≠ m + 3 ∧ q ≠ m + 9 ∧ q ≠ m + 12 ∧ q ≠ m + 13 ∧ q ≠ m + 14) → h128 q = h q := fun q hq => (congrFun eh128 q).trans ((hup_n (by omega)).trans (fr__8 q hq))
              refine g_iload_n k rfl dX10_notes_131 ?_
              rw [← hQQ]
              refine g_ireti k rfl dX10_notes_132 ?_
              have tr : ∀ q, q ≠ m → q ≠ m + 2 → h128 q = h55 q := fun q g1 g2 => (congrFun eh128 q).trans ((hup_n g1).trans (nfr3 q g2))
              rw [eb]
              unfold rdZ
              dsimp only
              rw [if_pos hft, if_pos hft, if_pos hft, if_pos hft]
              exact ⟨rfl, fun _ => hGx, ⟨_, ⟨hm__9, ((tr (m + 1) (by omega) (by omega)).trans hT9), ⟨_, hn__9, hRr9.ext hSx.2.1 (fun j hj => by have := @cpF_in Nr9 N 0 0 j hj; rw [Nat.zero_add] at this; exact this)⟩, ⟨Nr9, (tr (m + 3) (by omega) (by omega)).trans hr9⟩, (by rw [fr__9 (m + 4) (by omega)]; exact cq4), ⟨Ns, hs5__9, fun i hi => absurd hi (Nat.not_lt_zero i)⟩, (by rw [fr__9 (m + 6) (by omega)]; exact cq6), (by rw [fr__9 (m + 7) (by omega)]; exact cq7), (by rw [fr__9 (m + 8) (by omega)]; exact cq8), ⟨Nn9, (tr (m + 9) (by omega) (by omega)).trans hn9⟩, (by rw [fr__9 (m + 10) (by omega)]; exact cq10), (by rw [fr__9 (m + 11) (by omega)]; exact cq11), (by rw [tr (m + 12) (by omega) (by omega)]; exact hb9), (by rw [tr (m + 13) (by omega) (by omega)]; exact hrr9), (by rw [tr (m + 14) (by omega) (by omega)]; exact hv9), (by rw [fr__9 (m + 15) (by omega)]; exact cq15), (by rw [fr__9 (m + 16) (by omega)]; exact cq16), (by rw [fr__9 (m + 17) (by omega)]; exact cq17)⟩, ⟨hms9 1 (by omega), z69, rfl, hV9.1, hV9.2.1, hV9.2.2.1, hV9.2.2.2⟩, (hms9 0 (by omega))⟩, (fun q hq => fr__9 q (by omega))⟩
            · skip
              have hlm7 : (lmF n) ≤ 700 := by unfold lmF; split <;> omega
              refine g_aload_n k rfl dX10_notes_62 ?_
              refine g_cVi k 10 (As := []) v_X10_isItemWord rfl rfl hm__7 ml_X10_50 (c_X10_isItemWord hm__7 (hK.w hO.1).1 (hK.w hO.1).2.1) (by omega) (by omega) rfl (Nat.le_of_ble_eq_true rfl) rfl dX10_notes_63 (fun r63 h63 p63 => ?_)
              obtain ⟨eh63, p63⟩ := p63
              have eh63 := eh63.symm; subst eh63
              have q63 := p63
              have q63r := q63.r
              refine g_if_eq k (tgt := 76) (by omega) dX10_notes_66 (by decide) (fun c66 => ?_) (fun c66 => ?_)
              · skip
                have hi0 : ¬ (x.1.1 = 1 ∧ x.1.2.2.2 = 315565) := fun q => q63.f (by omega) ⟨(hK.w hO.1).2.2.1.mpr q.1, (Wr_eq (hK.2.2.2 q.1) Wr_item).mp q.2⟩
                refine g_aload_n k rfl dX10_notes_76 ?_
                refine g_cVi k 10 (As := []) v_X10_isName rfl rfl hm__7 ml_X10_133 (c_X10_isName hm__7 (hK.w hO.1).1 (hK.w hO.1).2.1) (by omega) (by omega) rfl (Nat.le_of_ble_eq_true rfl) rfl dX10_notes_77 (fun r77 h77 p77 => ?_)
                obtain ⟨eh77, p77⟩ := p77
                have eh77 := eh77.symm; subst eh77
                have q77 := p77
                have q77r := q77.r
                refine g_if_eq k (tgt := 90) (by omega) dX10_notes_80 (by decide) (fun c80 => ?_) (fun c80 => ?_)
                · skip
                  have hnn : ¬ isNm (x.1.1 : Int) x.1.2.2.2 := fun q => q77.f (by omega) ((hK.nm hO.1).mp q)
                  refine g_aload_n k rfl dX10_notes_90 ?_
                  refine g_iconst k dX10_notes_91 ?_
                  refine g_cVi k 10 (As := [vi 1]) v_X10_bad rfl rfl hm__7 ml_X10_127 (c_X10_bad hm__7 (hK.w hO.1).2.1 (p := 1)) (by omega) (by omega) rfl (Nat.le_of_ble_eq_true rfl) rfl dX10_notes_92 (fun r92 h92 p92 => ?_)
                  obtain ⟨p92e, nm9, nfr9⟩ := p92
                  subst p92e
                  have hm__10 : h92 m = some (mo m (fu (fu sx 6 1) 7 (sx 4))) := (by rw [nm9]; rw [show (if sx 5 = 1 then (1 : Int) else 1) = 1 by split <;> rfl])
                  have hn__10 : h92 (m + 2) = some (ai G 86 N) := (nfr9 _ (by omega)).trans hn__7
                  have hs5__10 : h92 (m + 5) = some (ai G 688 Ns) := (nfr9 _ (by omega)).trans hs5__7
                  have fr__10 : ∀ q : Nat, (q ≠ m ∧ q ≠ m + 2 ∧ q ≠ m + 3 ∧ q ≠ m + 9 ∧ q ≠ m + 12 ∧ q ≠ m + 13 ∧ q ≠ m + 14) → h92 q = h q := fun q hq => (nfr9 q (by omega)).trans (fr__7 q hq)
                  refine g_istore_n k (lv2 := [(0, .ref m), (1, vi (c : Int)), (2, vi 0)]) (by decide) rfl rfl dX10_notes_95 ?_
                  refine g_iload_n k rfl dX10_notes_96 ?_
                  refine g_if_ne k (tgt := 107) (by omega) dX10_notes_97 (by decide) (fun c97 => ?_) (fun c97 => ?_)
                  · skip
                    refine g_iinc k (lv2 := [(0, .ref m), (1, vi ((c : Int) + 1)), (2, vi 0)]) rfl (by decide) rfl rfl dX10_notes_107 ?_
                    refine g_goto k (tgt := 55) dX10_notes_110 (by decide) ?_
                    exact absurd rfl c97
                  · skip
                    refine g_iconst k dX10_notes_100 ?_
                    refine g_aload_n k rfl dX10_notes_101 ?_
                    refine g_get k 10 8 (v := vi (sx 4)) (C := RX10) (T := TX10) (N := 38) fl_X10_61 rfl wi_X10 (by decide) rfl hm__10 rfl dX10_notes_102 ?_
                    refine g_isub k dX10_notes_105 ?_
                    rw [← hQQ]
                    refine g_ireti k rfl dX10_notes_106 ?_
                    obtain ⟨-, hms9, hT9, ⟨Nr9, hr9, -⟩, ⟨Nn9, hn9, -⟩, hb9, hrr9, hv9, hV9, z69⟩ := id hC
                    have key : ∃ y : RS, rdB T n wd NM fp V = (c, y) ∧ y.2.2.2.2.1 = 1 ∧ (y.2.2.2.2.2.1 : Int) = sx 4 ∧ y.2.2.2.2.2.2 = x.2.2.2.2.2.2 := by
                      by_cases e0 : x.1.1 = 0
                      · have ey : rdA T n wd NM fp V = (c, x) := by
                          show rdL T n (lmF n) 700 ((stF T n (lmF n) 0 wd, 0, [], NM, 0, fp, V) : RS) 0 = _
                          rw [← hrd, rdL_end e0]
                        have h7 : 700 < n := Nat.not_le.mp (fun q => c59 ((hK.w hO.1).2.2.2.2.mpr ⟨e0, q⟩))
                        refine ⟨_, rdB_n ey ⟨hft, h7⟩, rfl, ?_, rfl⟩
                        rw [hK.2.1, hpl.2 e0]
                        unfold lmF
                        rw [if_pos h7]
                      · have hp3 := hpl.1 e0
                        have ey : rdA T n wd NM fp V = (c, (x.1, x.2.1, x.2.2.1, x.2.2.2.1, 1, x.1.2.1, x.2.2.2.2.2.2)) := by
                          show rdL T n (lmF n) 700 ((stF T n (lmF n) 0 wd, 0, [], NM, 0, fp, V) : RS) 0 = _
                          rw [← hrd, show kf = kf - 1 + 1 by omega, rdL, if_neg e0, rRow_f hi0, rFact_n hnn, if_neg (fun q => q)]
                        exact ⟨_, rdB_y ey (fun q => absurd (show (1 : Nat) = 0 from q.1) (by decide)), rfl, hK.2.1.symm, rfl⟩
                    obtain ⟨y, ey, y1, y2, y3⟩ := key
                    rw [ey]
                    unfold rdZ
                    dsimp only
                    rw [y1, y3, if_neg (by decide), if_neg (by decide), if_neg (by decide), if_neg (by decide)]
                    exact ⟨by rw [y2], fun q => absurd q (by decide), ⟨_, ⟨hm__10, ((nfr9 (m + 1) (by omega)).trans hT9), ⟨N, hn__10, hR⟩, ⟨Nr9, (nfr9 (m + 3) (by omega)).trans hr9⟩, (by rw [fr__10 (m + 4) (by omega)]; exact cq4), ⟨Ns, hs5__10, hsr5⟩, (by rw [fr__10 (m + 6) (by omega)]; exact cq6), (by rw [fr__10 (m + 7) (by omega)]; exact cq7), (by rw [fr__10 (m + 8) (by omega)]; exact cq8), ⟨Nn9, (nfr9 (m + 9) (by omega)).trans hn9⟩, (by rw [fr__10 (m + 10) (by omega)]; exact cq10), (by rw [fr__10 (m + 11) (by omega)]; exact cq11), (by rw [nfr9 (m + 12) (by omega)]; exact hb9), (by rw [nfr9 (m + 13) (by omega)]; exact hrr9), (by rw [nfr9 (m + 14) (by omega)]; exact hv9), (by rw [fr__10 (m + 15) (by omega)]; exact cq15), (by rw [fr__10 (m + 16) (by omega)]; exact cq16), (by rw [fr__10 (m + 17) (by omega)]; exact cq17)⟩, ⟨hms9 1 (by omega), rfl, (hms9 9 (by omega)).trans z9, hV9.1, hV9.2.1, hV9.2.2.1, hV9.2.2.2⟩, (hms9 0 (by omega))⟩, (fun q hq => fr__10 q (by omega))⟩
                · skip
                  have hnm := (hK.nm hO.1).mpr (q77.t (by omega))
                  have hnm1 := isNm_b hnm
                  have htk0 : ¬ x.1.1 = 0 := by omega
                  have hp3 := hpl.1 htk0
                  have hc1 : c + 1 ≤ x.1.2.2.1 := by omega
                  refine g_aload_n k rfl dX10_notes_83 ?_
                  refine g_cVi k 10 (As := []) v_X10_readFact rfl rfl hm__7 ml_X10_160 (c_X10_readFact hC hK hO hSx hGx z20 hn7 hBy rfl hnm) (by omega) (by omega) rfl (Nat.le_of_ble_eq_true rfl) rfl dX10_notes_84 (fun r84 h84 p84 => ?_)
                  obtain ⟨hz, ⟨s2, hC2, hy2, hf2⟩, nfr9⟩ := p84
                  have hm__11 : h84 m = some (mo m s2) := hC2.1
                  have hn__11 : h84 (m + 2) = some (ai G 86 N) := (nfr9 _ (by omega)).trans hn__7
                  have hs5__11 : h84 (m + 5) = some (ai G 688 Ns) := (nfr9 _ (by omega)).trans hs5__7
                  have fr__11 : ∀ q : Nat, (q ≠ m ∧ q ≠ m + 2 ∧ q ≠ m + 3 ∧ q ≠ m + 9 ∧ q ≠ m + 12 ∧ q ≠ m + 13 ∧ q ≠ m + 14) → h84 q = h q := fun q hq => (nfr9 q (by omega)).trans (fr__7 q hq)
                  have hzr := hz.r
                  have eR : rRow T n (lmF n) x = rFact T n (lmF n) x := rRow_f hi0
                  rw [← eR] at hz hC2 hy2 hf2
                  refine g_goto k (tgt := 95) dX10_notes_87 (by decide) ?_
                  refine g_istore_n k (lv2 := [(0, .ref m), (1, vi (c : Int)), (2, vi r84)]) (by decide) rfl rfl dX10_notes_95 ?_
                  refine g_iload_n k rfl dX10_notes_96 ?_
                  refine g_if_ne k (tgt := 107) (by omega) dX10_notes_97 (by decide) (fun c97_1 => ?_) (fun c97_1 => ?_)
                  · skip
                    refine g_iinc k (lv2 := [(0, .ref m), (1, vi ((c : Int) + 1)), (2, vi r84)]) rfl (by decide) rfl rfl dX10_notes_107 ?_
                    refine g_goto k (tgt := 55) dX10_notes_110 (by decide) ?_
                    refine g_less (lv2 := [(0, .ref m), (1, vi ((c : Int) + 1))]) ⟨rfl, rfl, trivial⟩ ?_
                    have hyy := hy2 (hz.t (by omega))
                    exact ih55 (nxT T n (lmF n) (rRow T n (lmF n) x).2.1, (rRow T n (lmF n) x).2.2) (c + 1) (kf - 1) s2 h84 hm__11 hn__11 hs5__11 fr__11 hC2 hyy.1 (stF_ok hln hyy.2.1.2.2.1) hyy.2.2.1 hyy.2.2.2.1 (hyy.2.2.2.2.2.trans hft) (st_pl hln (Nat.le_trans hc1 hyy.2.2.2.2.1)) (by omega) (by rw [← hrd, show kf = kf - 1 + 1 by omega, rdL, if_neg htk0, if_pos (hz.t (by omega))]; rfl) (by omega)
                  · skip
                    refine g_iconst k dX10_notes_100 ?_
                    refine g_aload_n k rfl dX10_notes_101 ?_
                    refine g_get k 10 8 (C := RX10) (T := TX10) (N := 38) fl_X10_61 rfl wi_X10 (by decide) rfl hm__11 rfl dX10_notes_102 ?_
                    refine g_isub k dX10_notes_105 ?_
                    rw [← hQQ]
                    refine g_ireti k rfl dX10_notes_106 ?_
                    have ey : rdA T n wd NM fp V = (c, (rRow T n (lmF n) x).2) := by
                      show rdL T n (lmF n) 700 ((stF T n (lmF n) 0 wd, 0, [], NM, 0, fp, V) : RS) 0 = _
                      rw [← hrd, show kf = kf - 1 + 1 by omega, rdL, if_neg htk0, if_neg (hz.f (by omega))]
                    have hne := (hf2 (hz.f (by omega))).2
                    have eb := rdB_y ey (fun q => hne q.1)
                    rw [eb]
                    unfold rdZ
                    dsimp only
                    rw [if_neg hne, if_neg hne, if_neg hne, if_neg hne]
                    obtain ⟨-, hms9, hT9, ⟨Nr9, hr9, -⟩, ⟨Nn9, hn9, -⟩, hb9, hrr9, hv9, hV9, z69⟩ := id hC2
                    exact ⟨by rw [(hf2 (hz.f (by omega))).1], fun q => absurd q hne, ⟨s2, ⟨hm__11, hT9, ⟨N, hn__11, hR⟩, ⟨Nr9, hr9⟩, (by rw [fr__11 (m + 4) (by omega)]; exact cq4), ⟨Ns, hs5__11, hsr5⟩, (by rw [fr__11 (m + 6) (by omega)]; exact cq6), (by rw [fr__11 (m + 7) (by omega)]; exact cq7), (by rw [fr__11 (m + 8) (by omega)]; exact cq8), ⟨Nn9, hn9⟩, (by rw [fr__11 (m + 10) (by omega)]; exact cq10), (by rw [fr__11 (m + 11) (by omega)]; exact cq11), hb9, hrr9, hv9, (by rw [fr__11 (m + 15) (by omega)]; exact cq15), (by rw [fr__11 (m + 16) (by omega)]; exact cq16), (by rw [fr__11 (m + 17) (by omega)]; exact cq17)⟩, ⟨hms9 1 (by omega), z69, (hms9 9 (by omega)).trans z9, hV9.1, hV9.2.1, hV9.2.2.1, hV9.2.2.2⟩, (hms9 0 (by omega))⟩, (fun q hq => fr__11 q (by omega))⟩
              · skip
                have hit := q63.t (by omega)
                have h11 : x.1.1 = 1 := (hK.w hO.1).2.2.1.mp hit.1
                have hi1 : x.1.1 = 1 ∧ x.1.2.2.2 = 315565 := ⟨h11, (Wr_eq (hK.2.2.2 h11) Wr_item).mpr hit.2⟩
                have htk0 : ¬ x.1.1 = 0 := by omega
                have hp3 := hpl.1 htk0
                have hc1 : c + 1 ≤ x.1.2.2.1 := by omega
                refine g_aload_n k rfl dX10_notes_69 ?_
                refine g_cVi k 10 (As := []) v_X10_readItem rfl rfl hm__7 ml_X10_157 (c_X10_readItem hC hK hO hSx hGx z20 hn7 hBy rfl hi1.1) (by omega) (by omega) rfl (Nat.le_of_ble_eq_true rfl) rfl dX10_notes_70 (fun r70 h70 p70 => ?_)
                obtain ⟨hz, ⟨s2, hC2, hy2, hf2⟩, nfr9⟩ := p70
                have hm__12 : h70 m = some (mo m s2) := hC2.1
                have hn__12 : h70 (m + 2) = some (ai G 86 N) := (nfr9 _ (by omega)).trans hn__7
                have hs5__12 : h70 (m + 5) = some (ai G 688 Ns) := (nfr9 _ (by omega)).trans hs5__7
                have fr__12 : ∀ q : Nat, (q ≠ m ∧ q ≠ m + 2 ∧ q ≠ m + 3 ∧ q ≠ m + 9 ∧ q ≠ m + 12 ∧ q ≠ m + 13 ∧ q ≠ m + 14) → h70 q = h q := fun q hq => (nfr9 q (by omega)).trans (fr__7 q hq)
                have hzr := hz.r
                have eR : rRow T n (lmF n) x = rItem T n (lmF n) x := rRow_i hi1
                rw [← eR] at hz hC2 hy2 hf2
                refine g_goto k (tgt := 95) dX10_notes_73 (by decide) ?_
                refine g_istore_n k (lv2 := [(0, .ref m), (1, vi (c : Int)), (2, vi r70)]) (by decide) rfl rfl dX10_notes_95 ?_
                refine g_iload_n k rfl dX10_notes_96 ?_
                refine g_if_ne k (tgt := 107) (by omega) dX10_notes_97 (by decide) (fun c97_2 => ?_) (fun c97_2 => ?_)
                · skip
                  refine g_iinc k (lv2 := [(0, .ref m), (1, vi ((c : Int) + 1)), (2, vi r70)]) rfl (by decide) rfl rfl dX10_notes_107 ?_
                  refine g_goto k (tgt := 55) dX10_notes_110 (by decide) ?_
                  refine g_less (lv2 := [(0, .ref m), (1, vi ((c : Int) + 1))]) ⟨rfl, rfl, trivial⟩ ?_
                  have hyy := hy2 (hz.t (by omega))
                  exact ih55 (nxT T n (lmF n) (rRow T n (lmF n) x).2.1, (rRow T n (lmF n) x).2.2) (c + 1) (kf - 1) s2 h70 hm__12 hn__12 hs5__12 fr__12 hC2 hyy.1 (stF_ok hln hyy.2.1.2.2.1) hyy.2.2.1 hyy.2.2.2.1 (hyy.2.2.2.2.2.trans hft) (st_pl hln (Nat.le_trans hc1 hyy.2.2.2.2.1)) (by omega) (by rw [← hrd, show kf = kf - 1 + 1 by omega, rdL, if_neg htk0, if_pos (hz.t (by omega))]; rfl) (by omega)
                · skip
                  refine g_iconst k dX10_notes_100 ?_
                  refine g_aload_n k rfl dX10_notes_101 ?_
                  refine g_get k 10 8 (C := RX10) (T := TX10) (N := 38) fl_X10_61 rfl wi_X10 (by decide) rfl hm__12 rfl dX10_notes_102 ?_
                  refine g_isub k dX10_notes_105 ?_
                  rw [← hQQ]
                  refine g_ireti k rfl dX10_notes_106 ?_
                  have ey : rdA T n wd NM fp V = (c, (rRow T n (lmF n) x).2) := by
                    show rdL T n (lmF n) 700 ((stF T n (lmF n) 0 wd, 0, [], NM, 0, fp, V) : RS) 0 = _
                    rw [← hrd, show kf = kf - 1 + 1 by omega, rdL, if_neg htk0, if_neg (hz.f (by omega))]
                  have hne := (hf2 (hz.f (by omega))).2
                  have eb := rdB_y ey (fun q => hne q.1)
                  rw [eb]
                  unfold rdZ
                  dsimp only
                  rw [if_neg hne, if_neg hne, if_neg hne, if_neg hne]
                  obtain ⟨-, hms9, hT9, ⟨Nr9, hr9, -⟩, ⟨Nn9, hn9, -⟩, hb9, hrr9, hv9, hV9, z69⟩ := id hC2
                  exact ⟨by rw [(hf2 (hz.f (by omega))).1], fun q => absurd q hne, ⟨s2, ⟨hm__12, hT9, ⟨N, hn__12, hR⟩, ⟨Nr9, hr9⟩, (by rw [fr__12 (m + 4) (by omega)]; exact cq4), ⟨Ns, hs5__12, hsr5⟩, (by rw [fr__12 (m + 6) (by omega)]; exact cq6), (by rw [fr__12 (m + 7) (by omega)]; exact cq7), (by rw [fr__12 (m + 8) (by omega)]; exact cq8), ⟨Nn9, hn9⟩, (by rw [fr__12 (m + 10) (by omega)]; exact cq10), (by rw [fr__12 (m + 11) (by omega)]; exact cq11), hb9, hrr9, hv9, (by rw [fr__12 (m + 15) (by omega)]; exact cq15), (by rw [fr__12 (m + 16) (by omega)]; exact cq16), (by rw [fr__12 (m + 17) (by omega)]; exact cq17)⟩, ⟨hms9 1 (by omega), z69, (hms9 9 (by omega)).trans z9, hV9.1, hV9.2.1, hV9.2.2.1, hV9.2.2.2⟩, (hms9 0 (by omega))⟩, (fun q hq => fr__12 q (by omega))⟩
        refine g_less (lv2 := [(0, .ref m), (1, vi 0)]) ⟨rfl, rfl, trivial⟩ ?_
        exact K55 _ ((stF T n (lmF n) 0 wd, 0, [], NM, 0, fp, V) : RS) 0 700 s1 h52 hm__6 hn__6 hs5__6 fr__6 hC0 hT1 (stF_ok hln (Nat.zero_le n)) ⟨Nat.zero_le 8, Nat.zero_le 28, fun i hi => absurd hi (Nat.not_lt_zero i)⟩ (fun k u b hk hw => by cases k with | zero => omega | succ k => (obtain ⟨t, ⟨⟨i, hi, _⟩, _⟩ | ⟨⟨i, hi, _⟩, _⟩⟩ := hw <;> exact absurd hi (Nat.not_lt_zero i))) rfl (st_pl hln (Nat.le_refl 0)) rfl rfl (Nat.lt_succ_self _)
      · skip
        refine g_aload_n k rfl dX10_notes_38 ?_
        refine g_get k 10 11 (v := .ref (m + 3)) (C := RX10) (T := TX10) (N := 38) fl_X10_77 rfl wi_X10 (by decide) rfl hm__5 rfl dX10_notes_39 ?_
        refine g_iload_n k rfl dX10_notes_42 ?_
        refine g_iconst k dX10_notes_43 ?_
        refine g_iast k v hr__5 (by omega) (by omega) (by decide) dX10_notes_44 (fun h44 eh44 => ?_)
        have hm__13 : h44 m = some (mo m (fu (fu (fu (fu (fu s 0 0) 1 0) 2 (s 1)) 3 0) 6 0)) := (congrFun eh44 _).trans ((hup_n (by omega)).trans hm__5)
        have hn__13 : h44 (m + 2) = some (ai G 86 N) := (congrFun eh44 _).trans ((hup_n (by omega)).trans hn__5)
        have hT__7 : h44 (m + 1) = some (ai G 740 T) := (congrFun eh44 _).trans ((hup_n (by omega)).trans hT__5)
        have hr__9 : h44 (m + 3) = some (ai G 86 (fu N3 v 0)) := (congrFun eh44 _).trans hup_s
        have hs5__13 : h44 (m + 5) = some (ai G 688 Ns) := (congrFun eh44 _).trans ((hup_n (by omega)).trans hs5__5)
        have h9__7 : h44 (m + 9) = some (al G 8 N9) := (congrFun eh44 _).trans ((hup_n (by omega)).trans h9__5)
        have hb__7 : h44 (m + 12) = some (ai G 72 Bt) := (congrFun eh44 _).trans ((hup_n (by omega)).trans hb__5)
        have hrr__7 : h44 (m + 13) = some (ai G 8 R) := (congrFun eh44 _).trans ((hup_n (by omega)).trans hrr__5)
        have hv__7 : h44 (m + 14) = some (ai G 8 Q) := (congrFun eh44 _).trans ((hup_n (by omega)).trans hv__5)
        have fr__13 : ∀ q : Nat, (q ≠ m ∧ q ≠ m + 2 ∧ q ≠ m + 3 ∧ q ≠ m + 9 ∧ q ≠ m + 12 ∧ q ≠ m + 13 ∧ q ≠ m + 14) → h44 q = h q := fun q hq => (congrFun eh44 q).trans ((hup_n (by omega)).trans (fr__5 q hq))
        refine g_iinc k (lv2 := [(0, .ref m), (1, vi 0), (2, vi ((v : Int) + 1))]) rfl (by decide) rfl rfl dX10_notes_45 ?_
        refine g_goto k (tgt := 32) dX10_notes_48 (by decide) ?_
        exact ih32 (v + 1) _ h44 hm__13 hn__13 hT__7 hr__9 hs5__13 h9__7 hb__7 hrr__7 hv__7 fr__13 (by omega) (lt_s2 (fun j hj => (fu_n (by omega)).trans (hN3 j hj)) fu_s) (by omega)
  exact K32 _ 0 _ h25 hm__4 hn__4 hT__4 hr__4 hs5__4 h9__4 hb__4 hrr__4 hv__4 fr__4 (Nat.zero_le _) (fun j hj => absurd hj (Nat.not_lt_zero j)) (Nat.lt_succ_self _)

