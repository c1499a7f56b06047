/-! the reference: its state, the small acts -/
theorem fu_same {s : Nat → Int} {i : Nat} {z : Int} (h : s i = z) : s = fu s i z := by
  funext j
  by_cases e : j = i
  · rw [e, fu_s, h]
  · rw [fu_n e]
theorem aS_push {N N1 : Nat → Int} {qs : List (Nat × Fs)} {it : Nat} {φ : Fs} (hq : ∀ i, i < qs.length → Rw (fun j => N1 (86 * i + j)) (qs.getD i (0, [])).1 (qs.getD i (0, [])).2 ∧ (qs.getD i (0, [])).2.length ≤ 28) (hR : Rw N it φ) (h28 : φ.length ≤ 28) : ∀ i, i < (qs ++ [(it, φ)]).length → Rw (fun j => cpF N 0 N1 (86 * qs.length) 86 (86 * i + j)) ((qs ++ [(it, φ)]).getD i (0, [])).1 ((qs ++ [(it, φ)]).getD i (0, [])).2 := by
  intro i hi
  rw [List.length_append, List.length_singleton] at hi
  by_cases e : i < qs.length
  · rw [getD_app e]
    exact (hq i e).1.ext (hq i e).2 (fun j hj => cpF_out (by omega))
  · rw [show i = qs.length by omega, getD_last]
    exact Rw.cp (A := N) (st := 0) (Rw.z.mpr hR) h28
/-- what is kept of acts: small, few -/
def PsO (ps : List (Nat × Fs)) : Prop := ps.length ≤ 8 ∧ ∀ i, i < ps.length → Sm (ps.getD i (0, [])).1 (ps.getD i (0, [])).2
set_option maxHeartbeats 600000 in
set_option maxRecDepth 100000 in
theorem c_X10_snap {G : Gx} {h : Hp} {nx : Nat} {m : Nat} {s : Nat → Int} (hm : h m = some (mo m s)) {N : Nat → Int} {it : Nat} {φ : Fs} (hn : h (m + 2) = some (ai G 86 N)) (hR : Rw N it φ) (hS : Sm it φ) {ps : List (Nat × Fs)} (c5 : aS G ps (h (m + 5))) (hps : PsO ps) (z9 : s 9 = (ps.length : Int)) : Con G yX10_snap cX10_snap 2 none 2 0 0 [.ref m] h nx (PV fun h' => (h' m = some (mo m (fu s 9 ((psh ps (it, φ)).length : Int))) ∧ aS G (psh ps (it, φ)) (h' (m + 5))) ∧ ∀ q : Nat, (q ≠ m ∧ q ≠ m + 5) → h' q = h q) := by
  obtain ⟨h8, h28, hsm⟩ := id hS
  obtain ⟨Ns, hs, hsr⟩ := c5
  obtain ⟨hp8, hpS⟩ := hps
  refine Con.of v_X10_snap.2.2.2.2.2.1 (Nat.le_of_ble_eq_true rfl) (lv := [(0, .ref m)]) rfl (fun X k => ?_)
  generalize hQQ : QM G X nx 0 0 _ = QQ
  have fr0 : ∀ q : Nat, (q ≠ m ∧ q ≠ m + 5) → h q = h q := fun _ _ => rfl
  have K49 : ∀ (qs : List (Nat × Fs)) (N1 : Nat → Int) (h49 : Hp) (hm_ : h49 m = some (mo m (fu s 9 (qs.length : Int)))) (hn_ : h49 (m + 2) = some (ai G 86 N)) (hs_ : h49 (m + 5) = some (ai G 688 N1)) (fr_ : ∀ q : Nat, (q ≠ m ∧ q ≠ m + 5) → h49 q = h q) (hq : qs = (if ps.length = 8 then ps.tail else ps)) (hql : qs.length ≤ 7) (hqr : ∀ i, i < qs.length → Rw (fun j => N1 (86 * i + j)) (qs.getD i (0, [])).1 (qs.getD i (0, [])).2 ∧ (qs.getD i (0, [])).2.length ≤ 28), Go G X 2 QQ 0 0 nx 49 [(0, .ref m)] [] h49 := by
    intro qs N1 h49 hm_ hn_ hs_ fr_ hq hql hqr
    refine g_aload_n k rfl dX10_snap_49 ?_
    refine g_get k 10 10 (v := .ref (m + 2)) (C := RX10) (T := TX10) (N := 38) fl_X10_74 rfl wi_X10 (by decide) rfl hm_ rfl dX10_snap_50 ?_
    refine g_iconst k dX10_snap_53 ?_
    refine g_aload_n k rfl dX10_snap_54 ?_
    refine g_get k 10 13 (v := .ref (m + 5)) (C := RX10) (T := TX10) (N := 38) fl_X10_83 rfl wi_X10 (by decide) rfl hm_ rfl dX10_snap_55 ?_
    refine g_bipush k rfl dX10_snap_58 ?_
    refine g_aload_n k rfl dX10_snap_60 ?_
    refine g_get k 10 19 (v := vi (qs.length : Int)) (C := RX10) (T := TX10) (N := 38) fl_X10_167 rfl wi_X10 (by decide) rfl hm_ rfl dX10_snap_61 ?_
    refine g_imul k dX10_snap_64 ?_
    rw [show 86 * (qs.length : Int) = ((86 * qs.length : Nat) : Int) from (by omega)]
    refine g_cSv k (As := [.ref (m + 2), vi 0, .ref (m + 5), vi ((86 * qs.length : Nat) : Int)]) v_X10_copy ml_X10_163 (c_X10_copy (st := 0) (to := 86 * qs.length) hn_ hs_ (by omega) (by omega) (by omega) (by omega) (by omega)) (by omega) (by omega) rfl (Nat.le_of_ble_eq_true rfl) rfl dX10_snap_65 (fun h65 p65 => ?_)
    obtain ⟨ns, nfr⟩ := p65
    have hm__1 : h65 m = some (mo m (fu s 9 (qs.length : Int))) := (nfr _ (by omega)).trans hm_
    have hn__1 : h65 (m + 2) = some (ai G 86 N) := (nfr _ (by omega)).trans hn_
    have hs__1 : h65 (m + 5) = some (ai G 688 (cpF N 0 N1 (86 * qs.length) 86)) := ns
    have fr__1 : ∀ q : Nat, (q ≠ m ∧ q ≠ m + 5) → h65 q = h q := fun q hq => (nfr q (by omega)).trans (fr_ q hq)
    refine g_aload_n k rfl dX10_snap_68 ?_
    refine g_dup k rfl dX10_snap_69 ?_
    refine g_get k 10 19 (v := vi (qs.length : Int)) (C := RX10) (T := TX10) (N := 38) fl_X10_167 rfl wi_X10 (by decide) rfl hm__1 rfl dX10_snap_70 ?_
    refine g_iconst k dX10_snap_73 ?_
    refine g_iadd k dX10_snap_74 ?_
    refine g_put k 10 19 (C := RX10) (T := TX10) (N := 38) fl_X10_167 rfl wi_X10 tyX10 tyX10_ok nmX10 (by decide) rfl rfl rfl rfl hm__1 (Nat.le_of_ble_eq_true rfl) (fs2 := mol m (fu s 9 ((qs.length : Int) + 1))) rfl rfl dX10_snap_75 (fun h75 eh75 => ?_)
    have hm__2 : h75 m = some (mo m (fu s 9 ((qs.length : Int) + 1))) := (congrFun eh75 _).trans hup_s
    have hn__2 : h75 (m + 2) = some (ai G 86 N) := (congrFun eh75 _).trans ((hup_n (by omega)).trans hn__1)
    have hs__2 : h75 (m + 5) = some (ai G 688 (cpF N 0 N1 (86 * qs.length) 86)) := (congrFun eh75 _).trans ((hup_n (by omega)).trans hs__1)
    have fr__2 : ∀ q : Nat, (q ≠ m ∧ q ≠ m + 5) → h75 q = h q := fun q hq => (congrFun eh75 q).trans ((hup_n (by omega)).trans (fr__1 q hq))
    rw [← hQQ]
    refine g_retv k rfl dX10_snap_78 ?_
    have e : psh ps (it, φ) = qs ++ [(it, φ)] := by unfold psh; rw [hq]
    rw [e]
    exact ⟨⟨by rw [show ((qs ++ [(it, φ)]).length : Int) = (qs.length : Int) + 1 by simp]; exact hm__2, _, hs__2, aS_push hqr hR hS.2.1⟩, fr__2⟩
  refine g_aload_n k rfl dX10_snap_0 ?_
  refine g_get k 10 19 (C := RX10) (T := TX10) (N := 38) fl_X10_167 rfl wi_X10 (by decide) rfl hm rfl dX10_snap_1 ?_
  refine g_bipush k rfl dX10_snap_4 ?_
  refine g_icmp_ne k (tgt := 49) (by omega) (by omega) dX10_snap_6 (by decide) (fun c6 => ?_) (fun c6 => ?_)
  · skip
    rw [fu_same z9] at hm
    exact K49 ps _ h hm hn hs fr0 (by rw [if_neg (by omega)]) (by omega) (fun i hi => ⟨hsr i hi, (hpS i hi).2.1⟩)
  · skip
    refine g_iconst k dX10_snap_9 ?_
    refine g_istore_n k (lv2 := [(0, .ref m), (1, vi 0)]) (by decide) rfl rfl dX10_snap_10 ?_
    have K11 : ∀ (nz_1 : Nat) (v : Nat) (h11 : Hp) (hm__3 : h11 m = some (mo m s)) (hn__3 : h11 (m + 2) = some (ai G 86 N)) (hs__3 : h11 (m + 5) = some (ai G 688 (fun j => if j < v then Ns (j + 86) else Ns j))) (fr__3 : ∀ q : Nat, (q ≠ m ∧ q ≠ m + 5) → h11 q = h q) (hv : v ≤ 602) (hmz_1 : 602 - v < nz_1), Go G X 2 QQ 0 0 nx 11 [(0, .ref m), (1, vi (v : Int))] [] h11 := by
      intro nz_1
      induction nz_1 with
      | zero => intro v h11 hm__3 hn__3 hs__3 fr__3 hv hmz_1; exact absurd hmz_1 (Nat.not_lt_zero _)
      | succ nz_1 ih11 =>
        intro v h11 hm__3 hn__3 hs__3 fr__3 hv hmz_1
        refine g_iload_n k rfl dX10_snap_11 ?_
        refine g_sipush k rfl dX10_snap_12 ?_
        refine g_icmp_ge k (tgt := 39) (by omega) (by omega) dX10_snap_15 (by decide) (fun c15 => ?_) (fun c15 => ?_)
        · skip
          refine g_aload_n k rfl dX10_snap_39 ?_
          refine g_dup k rfl dX10_snap_40 ?_
          refine g_get k 10 19 (C := RX10) (T := TX10) (N := 38) fl_X10_167 rfl wi_X10 (by decide) rfl hm__3 rfl dX10_snap_41 ?_
          refine g_iconst k dX10_snap_44 ?_
          refine g_isub k dX10_snap_45 ?_
          refine g_put k 10 19 (C := RX10) (T := TX10) (N := 38) fl_X10_167 rfl wi_X10 tyX10 tyX10_ok nmX10 (by decide) rfl rfl rfl rfl hm__3 (Nat.le_of_ble_eq_true rfl) (fs2 := mol m (fu s 9 ((s 9) - 1))) rfl rfl dX10_snap_46 (fun h46 eh46 => ?_)
          have hm__4 : h46 m = some (mo m (fu s 9 ((s 9) - 1))) := (congrFun eh46 _).trans hup_s
          have hn__4 : h46 (m + 2) = some (ai G 86 N) := (congrFun eh46 _).trans ((hup_n (by omega)).trans hn__3)
          have hs__4 : h46 (m + 5) = some (ai G 688 (fun j => if j < v then Ns (j + 86) else Ns j)) := (congrFun eh46 _).trans ((hup_n (by omega)).trans hs__3)
          have fr__4 : ∀ q : Nat, (q ≠ m ∧ q ≠ m + 5) → h46 q = h q := fun q hq => (congrFun eh46 q).trans ((hup_n (by omega)).trans (fr__3 q hq))
          refine g_less (lv2 := [(0, .ref m)]) ⟨rfl, trivial⟩ ?_
          have etl : ps.tail.length = ps.length - 1 := List.length_tail
          rw [show s 9 - 1 = (ps.tail.length : Int) by omega] at hm__4
          exact K49 (ps.tail) _ h46 hm__4 hn__4 hs__4 fr__4 (by rw [if_pos (by omega)]) (by omega) (fun i hi => by rw [getD_tail]; exact ⟨(hsr (i + 1) (by omega)).ext (hpS (i + 1) (by omega)).2.1 (fun j hj => by rw [if_pos (by omega)]; congr 1; omega), (hpS (i + 1) (by omega)).2.1⟩)
        · skip
          refine g_aload_n k rfl dX10_snap_18 ?_
          refine g_get k 10 13 (C := RX10) (T := TX10) (N := 38) fl_X10_83 rfl wi_X10 (by decide) rfl hm__3 rfl dX10_snap_19 ?_
          refine g_iload_n k rfl dX10_snap_22 ?_
          refine g_aload_n k rfl dX10_snap_23 ?_
          refine g_get k 10 13 (C := RX10) (T := TX10) (N := 38) fl_X10_83 rfl wi_X10 (by decide) rfl hm__3 rfl dX10_snap_24 ?_
          refine g_iload_n k rfl dX10_snap_27 ?_
          refine g_bipush k rfl dX10_snap_28 ?_
          refine g_iadd k dX10_snap_30 ?_
          refine g_iald k (v + 86) hs__3 (by omega) (by omega) (by decide) dX10_snap_31 ?_
          rw [if_neg (show ¬ v + 86 < v by omega)]
          refine g_iast k v hs__3 (by omega) (by omega) (by decide) dX10_snap_32 (fun h32 eh32 => ?_)
          have hm__5 : h32 m = some (mo m s) := (congrFun eh32 _).trans ((hup_n (by omega)).trans hm__3)
          have hn__5 : h32 (m + 2) = some (ai G 86 N) := (congrFun eh32 _).trans ((hup_n (by omega)).trans hn__3)
          have hs__5 : h32 (m + 5) = some (ai G 688 (fu (fun j => if j < v then Ns (j + 86) else Ns j) v (Ns (v + 86)))) := (congrFun eh32 _).trans hup_s
          have fr__5 : ∀ q : Nat, (q ≠ m ∧ q ≠ m + 5) → h32 q = h q := fun q hq => (congrFun eh32 q).trans ((hup_n (by omega)).trans (fr__3 q hq))
          refine g_iinc k (lv2 := [(0, .ref m), (1, vi ((v : Int) + 1))]) rfl (by decide) rfl rfl dX10_snap_33 ?_
          refine g_goto k (tgt := 11) dX10_snap_36 (by decide) ?_
          rw [show fu (fun j => if j < v then Ns (j + 86) else Ns j) v (Ns (v + 86)) = (fun j => if j < v + 1 then Ns (j + 86) else Ns j) by funext j; by_cases e : j = v; (subst e; rw [fu_s, if_pos (by omega)]); (rw [fu_n e]; by_cases e2 : j < v; (rw [if_pos e2, if_pos (by omega)]); rw [if_neg e2, if_neg (by omega)])] at hs__5
          exact ih11 (v + 1) h32 hm__5 hn__5 hs__5 fr__5 (by omega) (by omega)
    rw [show Ns = (fun j => if j < 0 then Ns (j + 86) else Ns j) by funext j; rw [if_neg (by omega)]] at hs
    exact K11 _ 0 h hm hn hs fr0 (Nat.zero_le _) (Nat.lt_succ_self _)

set_option maxHeartbeats 600000 in
set_option maxRecDepth 100000 in
theorem c_X10_stay {G : Gx} {h : Hp} {nx : Nat} {m : Nat} {s : Nat → Int} (hm : h m = some (mo m s)) {N : Nat → Int} {it : Nat} {φ : Fs} (hn : h (m + 2) = some (ai G 86 N)) (hR : Rw N it φ) (hS : Sm it φ) {ps : List (Nat × Fs)} (c5 : aS G ps (h (m + 5))) (hps : PsO ps) (z9 : s 9 = (ps.length : Int)) {N0 : Nat → Int} {i0 : Nat} {φ0 : Fs} (hb : h (m + 6) = some (ai G 86 N0)) (hR0 : Rw N0 i0 φ0) (hS0 : Sm i0 φ0) {Nl : Nat → Int} (hl : h (m + 7) = some (ai G 86 Nl)) : Con G yX10_stay cX10_stay 1 none 3 0 0 [.ref m] h nx (PV fun h' => (h' m = some (mo m (fu s 9 ((psh ps (i0, φ0)).length : Int))) ∧ aN G it φ (h' (m + 2)) ∧ aS G (psh ps (i0, φ0)) (h' (m + 5)) ∧ aI G 86 (h' (m + 7))) ∧ ∀ q : Nat, (q ≠ m ∧ q ≠ m + 2 ∧ q ≠ m + 5 ∧ q ≠ m + 7) → h' q = h q) := by
  refine Con.of v_X10_stay.2.2.2.2.2.1 (Nat.le_of_ble_eq_true rfl) (lv := [(0, .ref m)]) rfl (fun X k => ?_)
  generalize hQQ : QM G X nx 0 0 _ = QQ
  have fr0 : ∀ q : Nat, (q ≠ m ∧ q ≠ m + 2 ∧ q ≠ m + 5 ∧ q ≠ m + 7) → h q = h q := fun _ _ => rfl
  refine g_aload_n k rfl dX10_stay_0 ?_
  refine g_get k 10 10 (C := RX10) (T := TX10) (N := 38) fl_X10_74 rfl wi_X10 (by decide) rfl hm rfl dX10_stay_1 ?_
  refine g_iconst k dX10_stay_4 ?_
  refine g_aload_n k rfl dX10_stay_5 ?_
  refine g_get k 10 15 (C := RX10) (T := TX10) (N := 38) fl_X10_89 rfl wi_X10 (by decide) rfl hm rfl dX10_stay_6 ?_
  refine g_iconst k dX10_stay_9 ?_
  refine g_cSv k (As := [.ref (m + 2), vi 0, .ref (m + 7), vi 0]) v_X10_copy ml_X10_163 (c_X10_copy (st := 0) (to := 0) hn hl (by omega) (by omega) (by omega) (by omega) (by omega)) (by omega) (by omega) rfl (Nat.le_of_ble_eq_true rfl) rfl dX10_stay_10 (fun h10 p10 => ?_)
  obtain ⟨nl, nfr⟩ := p10
  have hm_ : h10 m = some (mo m s) := (nfr _ (by omega)).trans hm
  have hn_ : h10 (m + 2) = some (ai G 86 N) := (nfr _ (by omega)).trans hn
  have hb_ : h10 (m + 6) = some (ai G 86 N0) := (nfr _ (by omega)).trans hb
  have hl_ : h10 (m + 7) = some (ai G 86 (cpF N 0 Nl 0 86)) := nl
  have fr_ : ∀ q : Nat, (q ≠ m ∧ q ≠ m + 2 ∧ q ≠ m + 5 ∧ q ≠ m + 7) → h10 q = h q := fun q hq => (nfr q (by omega)).trans (fr0 q hq)
  refine g_aload_n k rfl dX10_stay_13 ?_
  refine g_get k 10 14 (C := RX10) (T := TX10) (N := 38) fl_X10_86 rfl wi_X10 (by decide) rfl hm_ rfl dX10_stay_14 ?_
  refine g_iconst k dX10_stay_17 ?_
  refine g_aload_n k rfl dX10_stay_18 ?_
  refine g_get k 10 10 (C := RX10) (T := TX10) (N := 38) fl_X10_74 rfl wi_X10 (by decide) rfl hm_ rfl dX10_stay_19 ?_
  refine g_iconst k dX10_stay_22 ?_
  refine g_cSv k (As := [.ref (m + 6), vi 0, .ref (m + 2), vi 0]) v_X10_copy ml_X10_163 (c_X10_copy (st := 0) (to := 0) hb_ hn_ (by omega) (by omega) (by omega) (by omega) (by omega)) (by omega) (by omega) rfl (Nat.le_of_ble_eq_true rfl) rfl dX10_stay_23 (fun h23 p23 => ?_)
  obtain ⟨nn, nfr2⟩ := p23
  have hm__1 : h23 m = some (mo m s) := (nfr2 _ (by omega)).trans hm_
  have hn__1 : h23 (m + 2) = some (ai G 86 (cpF N0 0 N 0 86)) := nn
  have hb__1 : h23 (m + 6) = some (ai G 86 N0) := (nfr2 _ (by omega)).trans hb_
  have hl__1 : h23 (m + 7) = some (ai G 86 (cpF N 0 Nl 0 86)) := (nfr2 _ (by omega)).trans hl_
  have fr__1 : ∀ q : Nat, (q ≠ m ∧ q ≠ m + 2 ∧ q ≠ m + 5 ∧ q ≠ m + 7) → h23 q = h q := fun q hq => (nfr2 q (by omega)).trans (fr_ q hq)
  refine g_aload_n k rfl dX10_stay_26 ?_
  refine g_cVv k 10 (As := []) v_X10_snap rfl rfl hm__1 ml_X10_250 (c_X10_snap hm__1 hn__1 (show Rw (cpF N0 0 N 0 86) i0 φ0 from hR0.ext hS0.2.1 (fun j hj => by have := @cpF_in N0 N 0 0 j hj; rw [Nat.zero_add] at this; exact this)) hS0 (by rw [nfr2 (m + 5) (by omega), nfr (m + 5) (by omega)]; exact c5) hps z9) (by omega) (by omega) rfl (Nat.le_of_ble_eq_true rfl) rfl dX10_stay_27 (fun h27 p27 => ?_)
  obtain ⟨⟨nm, ns⟩, nfr3⟩ := p27
  have hm__2 : h27 m = some (mo m (fu s 9 ((psh ps (i0, φ0)).length : Int))) := nm
  have hn__2 : h27 (m + 2) = some (ai G 86 (cpF N0 0 N 0 86)) := (nfr3 _ (by omega)).trans hn__1
  have hb__2 : h27 (m + 6) = some (ai G 86 N0) := (nfr3 _ (by omega)).trans hb__1
  have hl__2 : h27 (m + 7) = some (ai G 86 (cpF N 0 Nl 0 86)) := (nfr3 _ (by omega)).trans hl__1
  have fr__2 : ∀ q : Nat, (q ≠ m ∧ q ≠ m + 2 ∧ q ≠ m + 5 ∧ q ≠ m + 7) → h27 q = h q := fun q hq => (nfr3 q (by omega)).trans (fr__1 q hq)
  refine g_aload_n k rfl dX10_stay_30 ?_
  refine g_get k 10 15 (v := .ref (m + 7)) (C := RX10) (T := TX10) (N := 38) fl_X10_89 rfl wi_X10 (by decide) rfl hm__2 rfl dX10_stay_31 ?_
  refine g_iconst k dX10_stay_34 ?_
  refine g_aload_n k rfl dX10_stay_35 ?_
  refine g_get k 10 10 (v := .ref (m + 2)) (C := RX10) (T := TX10) (N := 38) fl_X10_74 rfl wi_X10 (by decide) rfl hm__2 rfl dX10_stay_36 ?_
  refine g_iconst k dX10_stay_39 ?_
  refine g_cSv k (As := [.ref (m + 7), vi 0, .ref (m + 2), vi 0]) v_X10_copy ml_X10_163 (c_X10_copy (st := 0) (to := 0) hl__2 hn__2 (by omega) (by omega) (by omega) (by omega) (by omega)) (by omega) (by omega) rfl (Nat.le_of_ble_eq_true rfl) rfl dX10_stay_40 (fun h40 p40 => ?_)
  obtain ⟨nn2, nfr4⟩ := p40
  have hm__3 : h40 m = some (mo m (fu s 9 ((psh ps (i0, φ0)).length : Int))) := (nfr4 _ (by omega)).trans hm__2
  have hn__3 : h40 (m + 2) = some (ai G 86 (cpF (cpF N 0 Nl 0 86) 0 (cpF N0 0 N 0 86) 0 86)) := nn2
  have hb__3 : h40 (m + 6) = some (ai G 86 N0) := (nfr4 _ (by omega)).trans hb__2
  have hl__3 : h40 (m + 7) = some (ai G 86 (cpF N 0 Nl 0 86)) := (nfr4 _ (by omega)).trans hl__2
  have fr__3 : ∀ q : Nat, (q ≠ m ∧ q ≠ m + 2 ∧ q ≠ m + 5 ∧ q ≠ m + 7) → h40 q = h q := fun q hq => (nfr4 q (by omega)).trans (fr__2 q hq)
  rw [← hQQ]
  refine g_retv k rfl dX10_stay_43 ?_
  refine ⟨⟨hm__3, ⟨_, hn__3, hR.ext hS.2.1 (fun j hj => ?_)⟩, by rw [nfr4 (m + 5) (by omega)]; exact ns, ⟨_, hl__3⟩⟩, fr__3⟩
  have e1 := @cpF_in (cpF N 0 Nl 0 86) (cpF N0 0 N 0 86) 0 0 j hj
  have e2 := @cpF_in N Nl 0 0 j hj
  rw [Nat.zero_add] at e1 e2
  rw [e1, e2]

set_option maxHeartbeats 600000 in
set_option maxRecDepth 100000 in
theorem c_X10_lay {G : Gx} {h : Hp} {nx : Nat} {m : Nat} {s : Nat → Int} (hm : h m = some (mo m s)) {T : Nat → Int} (hT : h (m + 1) = some (ai G 740 T)) {n : Nat} (z1 : s 1 = (n : Int)) (hn4 : n + 4 ≤ 740) {x : Int} : Con G yX10_lay cX10_lay 3 none 1 0 0 [.ref m, vi x] h nx (PV fun h' => (h' m = some (mo m (fu s 1 ((n + 4 : Nat) : Int))) ∧ h' (m + 1) = some (ai G 740 (ptF T n x 4))) ∧ ∀ q : Nat, (q ≠ m ∧ q ≠ m + 1) → h' q = h q) := by
  refine Con.of v_X10_lay.2.2.2.2.2.1 (Nat.le_of_ble_eq_true rfl) (lv := [(0, .ref m), (1, vi x)]) rfl (fun X k => ?_)
  generalize hQQ : QM G X nx 0 0 _ = QQ
  have fr0 : ∀ q : Nat, (q ≠ m ∧ q ≠ m + 1) → h q = h q := fun _ _ => rfl
  refine g_bipush k rfl dX10_lay_0 ?_
  refine g_istore_n k (lv2 := [(0, .ref m), (1, vi x), (2, vi 24)]) (by decide) rfl rfl dX10_lay_2 ?_
  have K3 : ∀ (nz : Nat) (i : Nat) (h3 : Hp) (hm_ : h3 m = some (mo m (fu s 1 ((n + i : Nat) : Int)))) (hT_ : h3 (m + 1) = some (ai G 740 (ptF T n x i))) (fr_ : ∀ q : Nat, (q ≠ m ∧ q ≠ m + 1) → h3 q = h q) (hi : i ≤ 4) (hmz : 4 - i < nz), Go G X 3 QQ 0 0 nx 3 [(0, .ref m), (1, vi x), (2, vi (24 - 8 * (i : Int)))] [] h3 := by
    intro nz
    induction nz with
    | zero => intro i h3 hm_ hT_ fr_ hi hmz; exact absurd hmz (Nat.not_lt_zero _)
    | succ nz ih3 =>
      intro i h3 hm_ hT_ fr_ hi hmz
      refine g_iload_n k rfl dX10_lay_3 ?_
      refine g_if_lt k (tgt := 39) (by omega) dX10_lay_4 (by decide) (fun c4 => ?_) (fun c4 => ?_)
      · skip
        rw [← hQQ]
        refine g_retv k rfl dX10_lay_39 ?_
        have e : i = 4 := by omega
        subst e
        exact ⟨⟨hm_, hT_⟩, fr_⟩
      · skip
        refine g_aload_n k rfl dX10_lay_7 ?_
        refine g_get k 10 1 (v := .ref (m + 1)) (C := RX10) (T := TX10) (N := 38) fl_X10_7 rfl wi_X10 (by decide) rfl hm_ rfl dX10_lay_8 ?_
        refine g_aload_n k rfl dX10_lay_11 ?_
        refine g_get k 10 2 (v := vi ((n + i : Nat) : Int)) (C := RX10) (T := TX10) (N := 38) fl_X10_11 rfl wi_X10 (by decide) rfl hm_ rfl dX10_lay_12 ?_
        refine g_iload_n k rfl dX10_lay_15 ?_
        refine g_iload_n k rfl dX10_lay_16 ?_
        refine g_iushr k (by omega) dX10_lay_17 ?_
        refine g_sipush k rfl dX10_lay_18 ?_
        refine g_iandm k 8 (by decide) (by decide) dX10_lay_21 ?_
        rw [show (x % 4294967296 / 2 ^ (24 - 8 * (i : Int)).toNat) % 2 ^ 8 = x % 4294967296 / 2 ^ (24 - 8 * i) % 256 from (by rw [show (24 - 8 * (i : Int)).toNat = 24 - 8 * i by omega]; rfl)]
        refine g_iast k (n + i) hT_ (by omega) (by omega) (by decide) dX10_lay_22 (fun h22 eh22 => ?_)
        have hm__1 : h22 m = some (mo m (fu s 1 ((n + i : Nat) : Int))) := (congrFun eh22 _).trans ((hup_n (by omega)).trans hm_)
        have hT__1 : h22 (m + 1) = some (ai G 740 (fu (ptF T n x i) (n + i) (x % 4294967296 / 2 ^ (24 - 8 * i) % 256))) := (congrFun eh22 _).trans hup_s
        have fr__1 : ∀ q : Nat, (q ≠ m ∧ q ≠ m + 1) → h22 q = h q := fun q hq => (congrFun eh22 q).trans ((hup_n (by omega)).trans (fr_ q hq))
        refine g_aload_n k rfl dX10_lay_23 ?_
        refine g_dup k rfl dX10_lay_24 ?_
        refine g_get k 10 2 (v := vi ((n + i : Nat) : Int)) (C := RX10) (T := TX10) (N := 38) fl_X10_11 rfl wi_X10 (by decide) rfl hm__1 rfl dX10_lay_25 ?_
        refine g_iconst k dX10_lay_28 ?_
        refine g_iadd k dX10_lay_29 ?_
        refine g_put k 10 2 (C := RX10) (T := TX10) (N := 38) fl_X10_11 rfl wi_X10 tyX10 tyX10_ok nmX10 (by decide) rfl rfl rfl rfl hm__1 (Nat.le_of_ble_eq_true rfl) (fs2 := mol m (fu s 1 (((n + i : Nat) : Int) + 1))) rfl rfl dX10_lay_30 (fun h30 eh30 => ?_)
        have hm__2 : h30 m = some (mo m (fu s 1 (((n + i : Nat) : Int) + 1))) := (congrFun eh30 _).trans hup_s
        have hT__2 : h30 (m + 1) = some (ai G 740 (fu (ptF T n x i) (n + i) (x % 4294967296 / 2 ^ (24 - 8 * i) % 256))) := (congrFun eh30 _).trans ((hup_n (by omega)).trans hT__1)
        have fr__2 : ∀ q : Nat, (q ≠ m ∧ q ≠ m + 1) → h30 q = h q := fun q hq => (congrFun eh30 q).trans ((hup_n (by omega)).trans (fr__1 q hq))
        refine g_iinc k (lv2 := [(0, .ref m), (1, vi x), (2, vi ((24 - 8 * (i : Int)) + (-8)))]) rfl (by decide) rfl rfl dX10_lay_33 ?_
        refine g_goto k (tgt := 3) dX10_lay_36 (by decide) ?_
        rw [show 24 - 8 * (i : Int) + -8 = 24 - 8 * ((i + 1 : Nat) : Int) by omega]
        exact ih3 (i + 1) h30 hm__2 hT__2 fr__2 (by omega) (by omega)
  rw [fu_same z1] at hm
  exact K3 _ 0 h hm hT fr0 (Nat.zero_le _) (Nat.lt_succ_self _)

set_option maxHeartbeats 600000 in
set_option maxRecDepth 100000 in
theorem c_X10_feed {G : Gx} {h : Hp} {nx m : Nat} {it : Nat} {φ : Fs} {ps : List (Nat × Fs)} {im : Nat → Option (Nat × Fs)} {V : RV} {n : Nat} {T : Nat → Int} {ft : Nat} (hM : MS G h m it φ ps im V n T ft) {p1 p2 p3 p4 p5 : Int} (hn7 : n ≤ 740) : Con G yX10_feed cX10_feed 6 (some .int) 2 0 0 [.ref m, vi p1, vi p2, vi p3, vi p4, vi p5] h nx (PI fun z h' => z = (if n ≤ 720 then (n : Int) + 20 else -1) ∧ MT G h' m 0 it φ ps im V (if n ≤ 720 then n + 20 else n) (if n ≤ 720 then fdT T n p1 p2 p3 p4 p5 else T) ft ∧ ∀ q : Nat, (q < m ∨ m + 17 < q) → h' q = h q) := by
  obtain ⟨th, s, ⟨hm, cq1, cq2, cq3, cq4, cq5, cq6, cq7, cq8, cq9, cq10, cq11, cq12, cq13, cq14, cq15, cq16, cq17⟩, hsc, hth⟩ := hM
  obtain ⟨z1, z6, z9, z14, z17, z15, z16⟩ := id hsc
  have hT := cq1
  refine Con.of v_X10_feed.2.2.2.2.2.1 (Nat.le_of_ble_eq_true rfl) (lv := [(0, .ref m), (1, vi p1), (2, vi p2), (3, vi p3), (4, vi p4), (5, vi p5)]) rfl (fun X k => ?_)
  generalize hQQ : QM G X nx 0 0 _ = QQ
  have fr0 : ∀ q : Nat, (q ≠ m ∧ q ≠ m + 1) → h q = h q := fun _ _ => rfl
  refine g_aload_n k rfl dX10_feed_0 ?_
  refine g_iconst k dX10_feed_1 ?_
  refine g_put k 10 0 (C := RX10) (T := TX10) (N := 38) fl_X10_1 rfl wi_X10 tyX10 tyX10_ok nmX10 (by decide) rfl rfl rfl rfl hm (Nat.le_of_ble_eq_true rfl) (fs2 := mol m (fu s 0 0)) rfl rfl dX10_feed_2 (fun h2 eh2 => ?_)
  have hm_ : h2 m = some (mo m (fu s 0 0)) := (congrFun eh2 _).trans hup_s
  have hT_ : h2 (m + 1) = some (ai G 740 T) := (congrFun eh2 _).trans ((hup_n (by omega)).trans hT)
  have fr_ : ∀ q : Nat, (q ≠ m ∧ q ≠ m + 1) → h2 q = h q := fun q hq => (congrFun eh2 q).trans ((hup_n (by omega)).trans (fr0 q hq))
  refine g_aload_n k rfl dX10_feed_5 ?_
  refine g_get k 10 2 (v := vi (s 1)) (C := RX10) (T := TX10) (N := 38) fl_X10_11 rfl wi_X10 (by decide) rfl hm_ rfl dX10_feed_6 ?_
  refine g_bipush k rfl dX10_feed_9 ?_
  refine g_iadd k dX10_feed_11 ?_
  refine g_sipush k rfl dX10_feed_12 ?_
  refine g_icmp_le k (tgt := 20) (by omega) (by omega) dX10_feed_15 (by decide) (fun c15 => ?_) (fun c15 => ?_)
  · skip
    refine g_aload_n k rfl dX10_feed_20 ?_
    refine g_iload_n k rfl dX10_feed_21 ?_
    refine g_cVv k 10 (As := [vi p1]) v_X10_lay rfl rfl hm_ ml_X10_14 (c_X10_lay hm_ hT_ (n := n) z1 (by omega) (x := p1)) (by omega) (by omega) rfl (Nat.le_of_ble_eq_true rfl) rfl dX10_feed_22 (fun h22 p22 => ?_)
    obtain ⟨⟨nm1, nt1⟩, nfr1⟩ := p22
    have hm__1 : h22 m = some (mo m (fu (fu s 0 0) 1 ((n + 4 : Nat) : Int))) := nm1
    have hT__1 : h22 (m + 1) = some (ai G 740 (ptF T n p1 4)) := nt1
    have fr__1 : ∀ q : Nat, (q ≠ m ∧ q ≠ m + 1) → h22 q = h q := fun q hq => (nfr1 q (by omega)).trans (fr_ q hq)
    refine g_aload_n k rfl dX10_feed_25 ?_
    refine g_iload_n k rfl dX10_feed_26 ?_
    refine g_cVv k 10 (As := [vi p2]) v_X10_lay rfl rfl hm__1 ml_X10_14 (c_X10_lay hm__1 hT__1 (n := n + 4) rfl (by omega) (x := p2)) (by omega) (by omega) rfl (Nat.le_of_ble_eq_true rfl) rfl dX10_feed_27 (fun h27 p27 => ?_)
    obtain ⟨⟨nm2, nt2⟩, nfr2⟩ := p27
    have hm__2 : h27 m = some (mo m (fu (fu s 0 0) 1 ((n + 4 + 4 : Nat) : Int))) := (by rw [nm2]; rw [show fu (fu (fu s 0 0) 1 ((n + 4 : Nat) : Int)) 1 ((n + 4 + 4 : Nat) : Int) = fu (fu s 0 0) 1 ((n + 4 + 4 : Nat) : Int) by funext j; unfold fu; split <;> rfl])
    have hT__2 : h27 (m + 1) = some (ai G 740 (ptF (ptF T n p1 4) (n + 4) p2 4)) := nt2
    have fr__2 : ∀ q : Nat, (q ≠ m ∧ q ≠ m + 1) → h27 q = h q := fun q hq => (nfr2 q (by omega)).trans (fr__1 q hq)
    refine g_aload_n k rfl dX10_feed_30 ?_
    refine g_iload_n k rfl dX10_feed_31 ?_
    refine g_cVv k 10 (As := [vi p3]) v_X10_lay rfl rfl hm__2 ml_X10_14 (c_X10_lay hm__2 hT__2 (n := n + 4 + 4) rfl (by omega) (x := p3)) (by omega) (by omega) rfl (Nat.le_of_ble_eq_true rfl) rfl dX10_feed_32 (fun h32 p32 => ?_)
    obtain ⟨⟨nm3, nt3⟩, nfr3⟩ := p32
    have hm__3 : h32 m = some (mo m (fu (fu s 0 0) 1 ((n + 4 + 4 + 4 : Nat) : Int))) := (by rw [nm3]; rw [show fu (fu (fu s 0 0) 1 ((n + 4 + 4 : Nat) : Int)) 1 ((n + 4 + 4 + 4 : Nat) : Int) = fu (fu s 0 0) 1 ((n + 4 + 4 + 4 : Nat) : Int) by funext j; unfold fu; split <;> rfl])
    have hT__3 : h32 (m + 1) = some (ai G 740 (ptF (ptF (ptF T n p1 4) (n + 4) p2 4) (n + 4 + 4) p3 4)) := nt3
    have fr__3 : ∀ q : Nat, (q ≠ m ∧ q ≠ m + 1) → h32 q = h q := fun q hq => (nfr3 q (by omega)).trans (fr__2 q hq)
    refine g_aload_n k rfl dX10_feed_35 ?_
    refine g_iload k rfl dX10_feed_36 ?_
    refine g_cVv k 10 (As := [vi p4]) v_X10_lay rfl rfl hm__3 ml_X10_14 (c_X10_lay hm__3 hT__3 (n := n + 4 + 4 + 4) rfl (by omega) (x := p4)) (by omega) (by omega) rfl (Nat.le_of_ble_eq_true rfl) rfl dX10_feed_38 (fun h38 p38 => ?_)
    obtain ⟨⟨nm4, nt4⟩, nfr4⟩ := p38
    have hm__4 : h38 m = some (mo m (fu (fu s 0 0) 1 ((n + 4 + 4 + 4 + 4 : Nat) : Int))) := (by rw [nm4]; rw [show fu (fu (fu s 0 0) 1 ((n + 4 + 4 + 4 : Nat) : Int)) 1 ((n + 4 + 4 + 4 + 4 : Nat) : Int) = fu (fu s 0 0) 1 ((n + 4 + 4 + 4 + 4 : Nat) : Int) by funext j; unfold fu; split <;> rfl])
    have hT__4 : h38 (m + 1) = some (ai G 740 (ptF (ptF (ptF (ptF T n p1 4) (n + 4) p2 4) (n + 4 + 4) p3 4) (n + 4 + 4 + 4) p4 4)) := nt4
    have fr__4 : ∀ q : Nat, (q ≠ m ∧ q ≠ m + 1) → h38 q = h q := fun q hq => (nfr4 q (by omega)).trans (fr__3 q hq)
    refine g_aload_n k rfl dX10_feed_41 ?_
    refine g_iload k rfl dX10_feed_42 ?_
    refine g_cVv k 10 (As := [vi p5]) v_X10_lay rfl rfl hm__4 ml_X10_14 (c_X10_lay hm__4 hT__4 (n := n + 4 + 4 + 4 + 4) rfl (by omega) (x := p5)) (by omega) (by omega) rfl (Nat.le_of_ble_eq_true rfl) rfl dX10_feed_44 (fun h44 p44 => ?_)
    obtain ⟨⟨nm5, nt5⟩, nfr5⟩ := p44
    have hm__5 : h44 m = some (mo m (fu (fu s 0 0) 1 ((n + 4 + 4 + 4 + 4 + 4 : Nat) : Int))) := (by rw [nm5]; rw [show fu (fu (fu s 0 0) 1 ((n + 4 + 4 + 4 + 4 : Nat) : Int)) 1 ((n + 4 + 4 + 4 + 4 + 4 : Nat) : Int) = fu (fu s 0 0) 1 ((n + 4 + 4 + 4 + 4 + 4 : Nat) : Int) by funext j; unfold fu; split <;> rfl])
    have hT__5 : h44 (m + 1) = some (ai G 740 (ptF (ptF (ptF (ptF (ptF T n p1 4) (n + 4) p2 4) (n + 4 + 4) p3 4) (n + 4 + 4 + 4) p4 4) (n + 4 + 4 + 4 + 4) p5 4)) := nt5
    have fr__5 : ∀ q : Nat, (q ≠ m ∧ q ≠ m + 1) → h44 q = h q := fun q hq => (nfr5 q (by omega)).trans (fr__4 q hq)
    refine g_aload_n k rfl dX10_feed_47 ?_
    refine g_get k 10 2 (v := vi ((n + 4 + 4 + 4 + 4 + 4 : Nat) : Int)) (C := RX10) (T := TX10) (N := 38) fl_X10_11 rfl wi_X10 (by decide) rfl hm__5 rfl dX10_feed_48 ?_
    rw [← hQQ]
    refine g_ireti k rfl dX10_feed_51 ?_
    rw [if_pos (by omega), if_pos (by omega), if_pos (by omega)]
    exact ⟨rfl, ⟨_, ⟨hm__5, hT__5, (by rw [fr__5 (m + 2) (by omega)]; exact cq2), (by rw [fr__5 (m + 3) (by omega)]; exact cq3), (by rw [fr__5 (m + 4) (by omega)]; exact cq4), (by rw [fr__5 (m + 5) (by omega)]; exact cq5), (by rw [fr__5 (m + 6) (by omega)]; exact cq6), (by rw [fr__5 (m + 7) (by omega)]; exact cq7), (by rw [fr__5 (m + 8) (by omega)]; exact cq8), (by rw [fr__5 (m + 9) (by omega)]; exact cq9), (by rw [fr__5 (m + 10) (by omega)]; exact cq10), (by rw [fr__5 (m + 11) (by omega)]; exact cq11), (by rw [fr__5 (m + 12) (by omega)]; exact cq12), (by rw [fr__5 (m + 13) (by omega)]; exact cq13), (by rw [fr__5 (m + 14) (by omega)]; exact cq14), (by rw [fr__5 (m + 15) (by omega)]; exact cq15), (by rw [fr__5 (m + 16) (by omega)]; exact cq16), (by rw [fr__5 (m + 17) (by omega)]; exact cq17)⟩, ⟨rfl, z6, z9, z14, z17, z15, z16⟩, rfl⟩, (fun q hq => fr__5 q (by omega))⟩
  · skip
    refine g_iconst k dX10_feed_18 ?_
    rw [← hQQ]
    refine g_ireti k rfl dX10_feed_19 ?_
    rw [if_neg (by omega), if_neg (by omega), if_neg (by omega)]
    exact ⟨rfl, ⟨_, ⟨hm_, hT_, (by rw [fr_ (m + 2) (by omega)]; exact cq2), (by rw [fr_ (m + 3) (by omega)]; exact cq3), (by rw [fr_ (m + 4) (by omega)]; exact cq4), (by rw [fr_ (m + 5) (by omega)]; exact cq5), (by rw [fr_ (m + 6) (by omega)]; exact cq6), (by rw [fr_ (m + 7) (by omega)]; exact cq7), (by rw [fr_ (m + 8) (by omega)]; exact cq8), (by rw [fr_ (m + 9) (by omega)]; exact cq9), (by rw [fr_ (m + 10) (by omega)]; exact cq10), (by rw [fr_ (m + 11) (by omega)]; exact cq11), (by rw [fr_ (m + 12) (by omega)]; exact cq12), (by rw [fr_ (m + 13) (by omega)]; exact cq13), (by rw [fr_ (m + 14) (by omega)]; exact cq14), (by rw [fr_ (m + 15) (by omega)]; exact cq15), (by rw [fr_ (m + 16) (by omega)]; exact cq16), (by rw [fr_ (m + 17) (by omega)]; exact cq17)⟩, hsc, rfl⟩, (fun q hq => fr_ q (by omega))⟩

set_option maxHeartbeats 600000 in
set_option maxRecDepth 100000 in
theorem c_X10_end {G : Gx} {h : Hp} {nx m : Nat} {it : Nat} {φ : Fs} {ps : List (Nat × Fs)} {im : Nat → Option (Nat × Fs)} {V : RV} {n : Nat} {T : Nat → Int} {ft : Nat} (hM : MS G h m it φ ps im V n T ft) {p : Int} (rp : -2147483648 ≤ p ∧ p ≤ 2147483647) (hn7 : n ≤ 740) : Con G yX10_end cX10_end 2 (some .boolean) 1 0 0 [.ref m, vi p] h nx (PI fun z h' => bz (0 ≤ p ∧ p ≤ n) z ∧ MT G h' m 0 it φ ps im V (if 0 ≤ p ∧ p ≤ n then p.toNat else n) T ft ∧ ∀ q : Nat, (q < m ∨ m + 17 < q) → h' q = h q) := by
  obtain ⟨th, s, ⟨hm, cq1, cq2, cq3, cq4, cq5, cq6, cq7, cq8, cq9, cq10, cq11, cq12, cq13, cq14, cq15, cq16, cq17⟩, hsc, hth⟩ := hM
  obtain ⟨z1, z6, z9, z14, z17, z15, z16⟩ := id hsc
  refine Con.of v_X10_end.2.2.2.2.2.1 (Nat.le_of_ble_eq_true rfl) (lv := [(0, .ref m), (1, vi p)]) rfl (fun X k => ?_)
  generalize hQQ : QM G X nx 0 0 _ = QQ
  have fr0 : ∀ q : Nat, q ≠ m → h q = h q := fun _ _ => rfl
  refine g_aload_n k rfl dX10_end_0 ?_
  refine g_iconst k dX10_end_1 ?_
  refine g_put k 10 0 (C := RX10) (T := TX10) (N := 38) fl_X10_1 rfl wi_X10 tyX10 tyX10_ok nmX10 (by decide) rfl rfl rfl rfl hm (Nat.le_of_ble_eq_true rfl) (fs2 := mol m (fu s 0 0)) rfl rfl dX10_end_2 (fun h2 eh2 => ?_)
  have hm_ : h2 m = some (mo m (fu s 0 0)) := (congrFun eh2 _).trans hup_s
  have fr_ : ∀ q : Nat, q ≠ m → h2 q = h q := fun q hq => (congrFun eh2 q).trans ((hup_n (by omega)).trans (fr0 q hq))
  refine g_iload_n k rfl dX10_end_5 ?_
  refine g_if_lt k (tgt := 17) (by omega) dX10_end_6 (by decide) (fun c6 => ?_) (fun c6 => ?_)
  · skip
    refine g_iconst k dX10_end_17 ?_
    rw [← hQQ]
    refine g_zreti k (by omega) rfl dX10_end_18 ?_
    rw [if_neg (by omega)]
    exact ⟨bz.n (by omega), ⟨_, ⟨hm_, ((fr_ (m + 1) (by omega)).trans cq1), (by rw [fr_ (m + 2) (by omega)]; exact cq2), (by rw [fr_ (m + 3) (by omega)]; exact cq3), (by rw [fr_ (m + 4) (by omega)]; exact cq4), (by rw [fr_ (m + 5) (by omega)]; exact cq5), (by rw [fr_ (m + 6) (by omega)]; exact cq6), (by rw [fr_ (m + 7) (by omega)]; exact cq7), (by rw [fr_ (m + 8) (by omega)]; exact cq8), (by rw [fr_ (m + 9) (by omega)]; exact cq9), (by rw [fr_ (m + 10) (by omega)]; exact cq10), (by rw [fr_ (m + 11) (by omega)]; exact cq11), (by rw [fr_ (m + 12) (by omega)]; exact cq12), (by rw [fr_ (m + 13) (by omega)]; exact cq13), (by rw [fr_ (m + 14) (by omega)]; exact cq14), (by rw [fr_ (m + 15) (by omega)]; exact cq15), (by rw [fr_ (m + 16) (by omega)]; exact cq16), (by rw [fr_ (m + 17) (by omega)]; exact cq17)⟩, hsc, rfl⟩, (fun q hq => fr_ q (by omega))⟩
  · skip
    refine g_iload_n k rfl dX10_end_9 ?_
    refine g_aload_n k rfl dX10_end_10 ?_
    refine g_get k 10 2 (v := vi (s 1)) (C := RX10) (T := TX10) (N := 38) fl_X10_11 rfl wi_X10 (by decide) rfl hm_ rfl dX10_end_11 ?_
    refine g_icmp_le k (tgt := 19) (by omega) (by omega) dX10_end_14 (by decide) (fun c14 => ?_) (fun c14 => ?_)
    · skip
      refine g_aload_n k rfl dX10_end_19 ?_
      refine g_iload_n k rfl dX10_end_20 ?_
      refine g_put k 10 2 (C := RX10) (T := TX10) (N := 38) fl_X10_11 rfl wi_X10 tyX10 tyX10_ok nmX10 (by decide) rfl rfl rfl rfl hm_ (Nat.le_of_ble_eq_true rfl) (fs2 := mol m (fu (fu s 0 0) 1 p)) rfl rfl dX10_end_21 (fun h21 eh21 => ?_)
      have hm__1 : h21 m = some (mo m (fu (fu s 0 0) 1 p)) := (congrFun eh21 _).trans hup_s
      have fr__1 : ∀ q : Nat, q ≠ m → h21 q = h q := fun q hq => (congrFun eh21 q).trans ((hup_n (by omega)).trans (fr_ q hq))
      refine g_iconst k dX10_end_24 ?_
      rw [← hQQ]
      refine g_zreti k (by omega) rfl dX10_end_25 ?_
      rw [if_pos (by omega)]
      exact ⟨bz.y (by omega), ⟨_, ⟨hm__1, ((fr__1 (m + 1) (by omega)).trans cq1), (by rw [fr__1 (m + 2) (by omega)]; exact cq2), (by rw [fr__1 (m + 3) (by omega)]; exact cq3), (by rw [fr__1 (m + 4) (by omega)]; exact cq4), (by rw [fr__1 (m + 5) (by omega)]; exact cq5), (by rw [fr__1 (m + 6) (by omega)]; exact cq6), (by rw [fr__1 (m + 7) (by omega)]; exact cq7), (by rw [fr__1 (m + 8) (by omega)]; exact cq8), (by rw [fr__1 (m + 9) (by omega)]; exact cq9), (by rw [fr__1 (m + 10) (by omega)]; exact cq10), (by rw [fr__1 (m + 11) (by omega)]; exact cq11), (by rw [fr__1 (m + 12) (by omega)]; exact cq12), (by rw [fr__1 (m + 13) (by omega)]; exact cq13), (by rw [fr__1 (m + 14) (by omega)]; exact cq14), (by rw [fr__1 (m + 15) (by omega)]; exact cq15), (by rw [fr__1 (m + 16) (by omega)]; exact cq16), (by rw [fr__1 (m + 17) (by omega)]; exact cq17)⟩, ⟨show p = (p.toNat : Int) by omega, z6, z9, z14, z17, z15, z16⟩, rfl⟩, (fun q hq => fr__1 q (by omega))⟩
    · skip
      refine g_iconst k dX10_end_17 ?_
      rw [← hQQ]
      refine g_zreti k (by omega) rfl dX10_end_18 ?_
      rw [if_neg (by omega)]
      exact ⟨bz.n (by omega), ⟨_, ⟨hm_, ((fr_ (m + 1) (by omega)).trans cq1), (by rw [fr_ (m + 2) (by omega)]; exact cq2), (by rw [fr_ (m + 3) (by omega)]; exact cq3), (by rw [fr_ (m + 4) (by omega)]; exact cq4), (by rw [fr_ (m + 5) (by omega)]; exact cq5), (by rw [fr_ (m + 6) (by omega)]; exact cq6), (by rw [fr_ (m + 7) (by omega)]; exact cq7), (by rw [fr_ (m + 8) (by omega)]; exact cq8), (by rw [fr_ (m + 9) (by omega)]; exact cq9), (by rw [fr_ (m + 10) (by omega)]; exact cq10), (by rw [fr_ (m + 11) (by omega)]; exact cq11), (by rw [fr_ (m + 12) (by omega)]; exact cq12), (by rw [fr_ (m + 13) (by omega)]; exact cq13), (by rw [fr_ (m + 14) (by omega)]; exact cq14), (by rw [fr_ (m + 15) (by omega)]; exact cq15), (by rw [fr_ (m + 16) (by omega)]; exact cq16), (by rw [fr_ (m + 17) (by omega)]; exact cq17)⟩, hsc, rfl⟩, (fun q hq => fr_ q (by omega))⟩

set_option maxHeartbeats 600000 in
set_option maxRecDepth 100000 in
theorem c_X10_fault {G : Gx} {h : Hp} {nx m : Nat} {it : Nat} {φ : Fs} {ps : List (Nat × Fs)} {im : Nat → Option (Nat × Fs)} {V : RV} {n : Nat} {T : Nat → Int} {ft : Nat} (hM : MS G h m it φ ps im V n T ft)  : Con G yX10_fault cX10_fault 1 (some .int) 1 0 0 [.ref m] h nx (PI fun z h' => z = (ft : Int) ∧ MT G h' m 0 it φ ps im V n T ft ∧ ∀ q : Nat, (q < m ∨ m + 17 < q) → h' q = h q) := by
  obtain ⟨th, s, ⟨hm, cq1, cq2, cq3, cq4, cq5, cq6, cq7, cq8, cq9, cq10, cq11, cq12, cq13, cq14, cq15, cq16, cq17⟩, hsc, hth⟩ := hM
  obtain ⟨z1, z6, z9, z14, z17, z15, z16⟩ := id hsc
  refine Con.of v_X10_fault.2.2.2.2.2.1 (Nat.le_of_ble_eq_true rfl) (lv := [(0, .ref m)]) rfl (fun X k => ?_)
  generalize hQQ : QM G X nx 0 0 _ = QQ
  have fr0 : ∀ q : Nat, q ≠ m → h q = h q := fun _ _ => rfl
  refine g_aload_n k rfl dX10_fault_0 ?_
  refine g_iconst k dX10_fault_1 ?_
  refine g_put k 10 0 (C := RX10) (T := TX10) (N := 38) fl_X10_1 rfl wi_X10 tyX10 tyX10_ok nmX10 (by decide) rfl rfl rfl rfl hm (Nat.le_of_ble_eq_true rfl) (fs2 := mol m (fu s 0 0)) rfl rfl dX10_fault_2 (fun h2 eh2 => ?_)
  have hm_ : h2 m = some (mo m (fu s 0 0)) := (congrFun eh2 _).trans hup_s
  have fr_ : ∀ q : Nat, q ≠ m → h2 q = h q := fun q hq => (congrFun eh2 q).trans ((hup_n (by omega)).trans (fr0 q hq))
  refine g_aload_n k rfl dX10_fault_5 ?_
  refine g_get k 10 7 (v := vi (s 6)) (C := RX10) (T := TX10) (N := 38) fl_X10_58 rfl wi_X10 (by decide) rfl hm_ rfl dX10_fault_6 ?_
  rw [← hQQ]
  refine g_ireti k rfl dX10_fault_9 ?_
  exact ⟨z6, ⟨_, ⟨hm_, ((fr_ (m + 1) (by omega)).trans cq1), (by rw [fr_ (m + 2) (by omega)]; exact cq2), (by rw [fr_ (m + 3) (by omega)]; exact cq3), (by rw [fr_ (m + 4) (by omega)]; exact cq4), (by rw [fr_ (m + 5) (by omega)]; exact cq5), (by rw [fr_ (m + 6) (by omega)]; exact cq6), (by rw [fr_ (m + 7) (by omega)]; exact cq7), (by rw [fr_ (m + 8) (by omega)]; exact cq8), (by rw [fr_ (m + 9) (by omega)]; exact cq9), (by rw [fr_ (m + 10) (by omega)]; exact cq10), (by rw [fr_ (m + 11) (by omega)]; exact cq11), (by rw [fr_ (m + 12) (by omega)]; exact cq12), (by rw [fr_ (m + 13) (by omega)]; exact cq13), (by rw [fr_ (m + 14) (by omega)]; exact cq14), (by rw [fr_ (m + 15) (by omega)]; exact cq15), (by rw [fr_ (m + 16) (by omega)]; exact cq16), (by rw [fr_ (m + 17) (by omega)]; exact cq17)⟩, hsc, rfl⟩, (fun q hq => fr_ q (by omega))⟩

set_option maxHeartbeats 600000 in
set_option maxRecDepth 100000 in
theorem c_X10_refuted {G : Gx} {h : Hp} {nx m : Nat} {it : Nat} {φ : Fs} {ps : List (Nat × Fs)} {im : Nat → Option (Nat × Fs)} {V : RV} {n : Nat} {T : Nat → Int} {ft : Nat} (hM : MS G h m it φ ps im V n T ft) (hV8 : 0 ≤ V.1 ∧ V.1 ≤ 8) {p : Int} (rp : -2147483648 ≤ p ∧ p ≤ 2147483647) : Con G yX10_refuted cX10_refuted 2 (some .int) 1 0 0 [.ref m, vi p] h nx (PI fun z h' => z = rfF V p ∧ MT G h' m 0 it φ ps im V n T ft ∧ ∀ q : Nat, (q < m ∨ m + 17 < q) → h' q = h q) := by
  obtain ⟨th, s, ⟨hm, cq1, cq2, cq3, cq4, cq5, cq6, cq7, cq8, cq9, cq10, cq11, cq12, cq13, cq14, cq15, cq16, cq17⟩, hsc, hth⟩ := hM
  obtain ⟨z1, z6, z9, z14, z17, z15, z16⟩ := id hsc
  refine Con.of v_X10_refuted.2.2.2.2.2.1 (Nat.le_of_ble_eq_true rfl) (lv := [(0, .ref m), (1, vi p)]) rfl (fun X k => ?_)
  generalize hQQ : QM G X nx 0 0 _ = QQ
  have fr0 : ∀ q : Nat, q ≠ m → h q = h q := fun _ _ => rfl
  refine g_aload_n k rfl dX10_refuted_0 ?_
  refine g_iconst k dX10_refuted_1 ?_
  refine g_put k 10 0 (C := RX10) (T := TX10) (N := 38) fl_X10_1 rfl wi_X10 tyX10 tyX10_ok nmX10 (by decide) rfl rfl rfl rfl hm (Nat.le_of_ble_eq_true rfl) (fs2 := mol m (fu s 0 0)) rfl rfl dX10_refuted_2 (fun h2 eh2 => ?_)
  have hm_ : h2 m = some (mo m (fu s 0 0)) := (congrFun eh2 _).trans hup_s
  have fr_ : ∀ q : Nat, q ≠ m → h2 q = h q := fun q hq => (congrFun eh2 q).trans ((hup_n (by omega)).trans (fr0 q hq))
  refine g_aload_n k rfl dX10_refuted_5 ?_
  refine g_get k 10 28 (v := vi (s 14)) (C := RX10) (T := TX10) (N := 38) fl_X10_115 rfl wi_X10 (by decide) rfl hm_ rfl dX10_refuted_6 ?_
  refine g_iconst k dX10_refuted_9 ?_
  refine g_icmp_ne k (tgt := 15) (by omega) (by omega) dX10_refuted_10 (by decide) (fun c10 => ?_) (fun c10 => ?_)
  · skip
    refine g_iload_n k rfl dX10_refuted_15 ?_
    rcases (show p < 0 ∨ 3 < p ∨ p = 0 ∨ p = 1 ∨ p = 2 ∨ p = 3 by omega) with c16 | c16 | c16 | c16 | c16 | c16
    · skip
      refine g_tabOut k (tgt := 70) (by omega) (by omega) dX10_refuted_16 (by decide) ?_
      refine g_iconst k dX10_refuted_70 ?_
      rw [← hQQ]
      refine g_ireti k rfl dX10_refuted_71 ?_
      exact ⟨(by unfold rfF; rw [if_neg (by omega), if_neg (by omega), if_neg (by omega), if_neg (by omega), if_neg (by omega)]), ⟨_, ⟨hm_, ((fr_ (m + 1) (by omega)).trans cq1), (by rw [fr_ (m + 2) (by omega)]; exact cq2), (by rw [fr_ (m + 3) (by omega)]; exact cq3), (by rw [fr_ (m + 4) (by omega)]; exact cq4), (by rw [fr_ (m + 5) (by omega)]; exact cq5), (by rw [fr_ (m + 6) (by omega)]; exact cq6), (by rw [fr_ (m + 7) (by omega)]; exact cq7), (by rw [fr_ (m + 8) (by omega)]; exact cq8), (by rw [fr_ (m + 9) (by omega)]; exact cq9), (by rw [fr_ (m + 10) (by omega)]; exact cq10), (by rw [fr_ (m + 11) (by omega)]; exact cq11), (by rw [fr_ (m + 12) (by omega)]; exact cq12), (by rw [fr_ (m + 13) (by omega)]; exact cq13), (by rw [fr_ (m + 14) (by omega)]; exact cq14), (by rw [fr_ (m + 15) (by omega)]; exact cq15), (by rw [fr_ (m + 16) (by omega)]; exact cq16), (by rw [fr_ (m + 17) (by omega)]; exact cq17)⟩, hsc, rfl⟩, (fun q hq => fr_ q (by omega))⟩
    · skip
      refine g_tabOut k (tgt := 70) (by omega) (by omega) dX10_refuted_16 (by decide) ?_
      refine g_iconst k dX10_refuted_70 ?_
      rw [← hQQ]
      refine g_ireti k rfl dX10_refuted_71 ?_
      exact ⟨(by unfold rfF; rw [if_neg (by omega), if_neg (by omega), if_neg (by omega), if_neg (by omega), if_neg (by omega)]), ⟨_, ⟨hm_, ((fr_ (m + 1) (by omega)).trans cq1), (by rw [fr_ (m + 2) (by omega)]; exact cq2), (by rw [fr_ (m + 3) (by omega)]; exact cq3), (by rw [fr_ (m + 4) (by omega)]; exact cq4), (by rw [fr_ (m + 5) (by omega)]; exact cq5), (by rw [fr_ (m + 6) (by omega)]; exact cq6), (by rw [fr_ (m + 7) (by omega)]; exact cq7), (by rw [fr_ (m + 8) (by omega)]; exact cq8), (by rw [fr_ (m + 9) (by omega)]; exact cq9), (by rw [fr_ (m + 10) (by omega)]; exact cq10), (by rw [fr_ (m + 11) (by omega)]; exact cq11), (by rw [fr_ (m + 12) (by omega)]; exact cq12), (by rw [fr_ (m + 13) (by omega)]; exact cq13), (by rw [fr_ (m + 14) (by omega)]; exact cq14), (by rw [fr_ (m + 15) (by omega)]; exact cq15), (by rw [fr_ (m + 16) (by omega)]; exact cq16), (by rw [fr_ (m + 17) (by omega)]; exact cq17)⟩, hsc, rfl⟩, (fun q hq => fr_ q (by omega))⟩
    · skip
      refine g_tabIn k (off := 32) (tgt := 48) (by omega) (by omega) (by omega) (by rw [c16]; rfl) dX10_refuted_16 (by decide) ?_
      refine g_aload_n k rfl dX10_refuted_48 ?_
      refine g_get k 10 28 (v := vi (s 14)) (C := RX10) (T := TX10) (N := 38) fl_X10_115 rfl wi_X10 (by decide) rfl hm_ rfl dX10_refuted_49 ?_
      refine g_iconst k dX10_refuted_52 ?_
      refine g_iadd k dX10_refuted_53 ?_
      rw [← hQQ]
      refine g_ireti k rfl dX10_refuted_54 ?_
      exact ⟨(by unfold rfF; rw [if_neg (by omega), if_pos (by omega)]; omega), ⟨_, ⟨hm_, ((fr_ (m + 1) (by omega)).trans cq1), (by rw [fr_ (m + 2) (by omega)]; exact cq2), (by rw [fr_ (m + 3) (by omega)]; exact cq3), (by rw [fr_ (m + 4) (by omega)]; exact cq4), (by rw [fr_ (m + 5) (by omega)]; exact cq5), (by rw [fr_ (m + 6) (by omega)]; exact cq6), (by rw [fr_ (m + 7) (by omega)]; exact cq7), (by rw [fr_ (m + 8) (by omega)]; exact cq8), (by rw [fr_ (m + 9) (by omega)]; exact cq9), (by rw [fr_ (m + 10) (by omega)]; exact cq10), (by rw [fr_ (m + 11) (by omega)]; exact cq11), (by rw [fr_ (m + 12) (by omega)]; exact cq12), (by rw [fr_ (m + 13) (by omega)]; exact cq13), (by rw [fr_ (m + 14) (by omega)]; exact cq14), (by rw [fr_ (m + 15) (by omega)]; exact cq15), (by rw [fr_ (m + 16) (by omega)]; exact cq16), (by rw [fr_ (m + 17) (by omega)]; exact cq17)⟩, hsc, rfl⟩, (fun q hq => fr_ q (by omega))⟩
    · skip
      refine g_tabIn k (off := 39) (tgt := 55) (by omega) (by omega) (by omega) (by rw [c16]; rfl) dX10_refuted_16 (by decide) ?_
      refine g_aload_n k rfl dX10_refuted_55 ?_
      refine g_get k 10 31 (v := vi (s 17)) (C := RX10) (T := TX10) (N := 38) fl_X10_221 rfl wi_X10 (by decide) rfl hm_ rfl dX10_refuted_56 ?_
      rw [← hQQ]
      refine g_ireti k rfl dX10_refuted_59 ?_
      exact ⟨(by unfold rfF; rw [if_neg (by omega), if_neg (by omega), if_pos (by omega)]; exact z17), ⟨_, ⟨hm_, ((fr_ (m + 1) (by omega)).trans cq1), (by rw [fr_ (m + 2) (by omega)]; exact cq2), (by rw [fr_ (m + 3) (by omega)]; exact cq3), (by rw [fr_ (m + 4) (by omega)]; exact cq4), (by rw [fr_ (m + 5) (by omega)]; exact cq5), (by rw [fr_ (m + 6) (by omega)]; exact cq6), (by rw [fr_ (m + 7) (by omega)]; exact cq7), (by rw [fr_ (m + 8) (by omega)]; exact cq8), (by rw [fr_ (m + 9) (by omega)]; exact cq9), (by rw [fr_ (m + 10) (by omega)]; exact cq10), (by rw [fr_ (m + 11) (by omega)]; exact cq11), (by rw [fr_ (m + 12) (by omega)]; exact cq12), (by rw [fr_ (m + 13) (by omega)]; exact cq13), (by rw [fr_ (m + 14) (by omega)]; exact cq14), (by rw [fr_ (m + 15) (by omega)]; exact cq15), (by rw [fr_ (m + 16) (by omega)]; exact cq16), (by rw [fr_ (m + 17) (by omega)]; exact cq17)⟩, hsc, rfl⟩, (fun q hq => fr_ q (by omega))⟩
    · skip
      refine g_tabIn k (off := 44) (tgt := 60) (by omega) (by omega) (by omega) (by rw [c16]; rfl) dX10_refuted_16 (by decide) ?_
      refine g_aload_n k rfl dX10_refuted_60 ?_
      refine g_get k 10 29 (v := vi (s 15)) (C := RX10) (T := TX10) (N := 38) fl_X10_215 rfl wi_X10 (by decide) rfl hm_ rfl dX10_refuted_61 ?_
      rw [← hQQ]
      refine g_ireti k rfl dX10_refuted_64 ?_
      exact ⟨(by unfold rfF; rw [if_neg (by omega), if_neg (by omega), if_neg (by omega), if_pos (by omega)]; exact z15), ⟨_, ⟨hm_, ((fr_ (m + 1) (by omega)).trans cq1), (by rw [fr_ (m + 2) (by omega)]; exact cq2), (by rw [fr_ (m + 3) (by omega)]; exact cq3), (by rw [fr_ (m + 4) (by omega)]; exact cq4), (by rw [fr_ (m + 5) (by omega)]; exact cq5), (by rw [fr_ (m + 6) (by omega)]; exact cq6), (by rw [fr_ (m + 7) (by omega)]; exact cq7), (by rw [fr_ (m + 8) (by omega)]; exact cq8), (by rw [fr_ (m + 9) (by omega)]; exact cq9), (by rw [fr_ (m + 10) (by omega)]; exact cq10), (by rw [fr_ (m + 11) (by omega)]; exact cq11), (by rw [fr_ (m + 12) (by omega)]; exact cq12), (by rw [fr_ (m + 13) (by omega)]; exact cq13), (by rw [fr_ (m + 14) (by omega)]; exact cq14), (by rw [fr_ (m + 15) (by omega)]; exact cq15), (by rw [fr_ (m + 16) (by omega)]; exact cq16), (by rw [fr_ (m + 17) (by omega)]; exact cq17)⟩, hsc, rfl⟩, (fun q hq => fr_ q (by omega))⟩
    · skip
      refine g_tabIn k (off := 49) (tgt := 65) (by omega) (by omega) (by omega) (by rw [c16]; rfl) dX10_refuted_16 (by decide) ?_
      refine g_aload_n k rfl dX10_refuted_65 ?_
      refine g_get k 10 30 (v := vi (s 16)) (C := RX10) (T := TX10) (N := 38) fl_X10_218 rfl wi_X10 (by decide) rfl hm_ rfl dX10_refuted_66 ?_
      rw [← hQQ]
      refine g_ireti k rfl dX10_refuted_69 ?_
      exact ⟨(by unfold rfF; rw [if_neg (by omega), if_neg (by omega), if_neg (by omega), if_neg (by omega), if_pos (by omega)]; exact z16), ⟨_, ⟨hm_, ((fr_ (m + 1) (by omega)).trans cq1), (by rw [fr_ (m + 2) (by omega)]; exact cq2), (by rw [fr_ (m + 3) (by omega)]; exact cq3), (by rw [fr_ (m + 4) (by omega)]; exact cq4), (by rw [fr_ (m + 5) (by omega)]; exact cq5), (by rw [fr_ (m + 6) (by omega)]; exact cq6), (by rw [fr_ (m + 7) (by omega)]; exact cq7), (by rw [fr_ (m + 8) (by omega)]; exact cq8), (by rw [fr_ (m + 9) (by omega)]; exact cq9), (by rw [fr_ (m + 10) (by omega)]; exact cq10), (by rw [fr_ (m + 11) (by omega)]; exact cq11), (by rw [fr_ (m + 12) (by omega)]; exact cq12), (by rw [fr_ (m + 13) (by omega)]; exact cq13), (by rw [fr_ (m + 14) (by omega)]; exact cq14), (by rw [fr_ (m + 15) (by omega)]; exact cq15), (by rw [fr_ (m + 16) (by omega)]; exact cq16), (by rw [fr_ (m + 17) (by omega)]; exact cq17)⟩, hsc, rfl⟩, (fun q hq => fr_ q (by omega))⟩
  · skip
    refine g_iconst k dX10_refuted_13 ?_
    rw [← hQQ]
    refine g_ireti k rfl dX10_refuted_14 ?_
    exact ⟨(by unfold rfF; rw [if_pos (by omega)]), ⟨_, ⟨hm_, ((fr_ (m + 1) (by omega)).trans cq1), (by rw [fr_ (m + 2) (by omega)]; exact cq2), (by rw [fr_ (m + 3) (by omega)]; exact cq3), (by rw [fr_ (m + 4) (by omega)]; exact cq4), (by rw [fr_ (m + 5) (by omega)]; exact cq5), (by rw [fr_ (m + 6) (by omega)]; exact cq6), (by rw [fr_ (m + 7) (by omega)]; exact cq7), (by rw [fr_ (m + 8) (by omega)]; exact cq8), (by rw [fr_ (m + 9) (by omega)]; exact cq9), (by rw [fr_ (m + 10) (by omega)]; exact cq10), (by rw [fr_ (m + 11) (by omega)]; exact cq11), (by rw [fr_ (m + 12) (by omega)]; exact cq12), (by rw [fr_ (m + 13) (by omega)]; exact cq13), (by rw [fr_ (m + 14) (by omega)]; exact cq14), (by rw [fr_ (m + 15) (by omega)]; exact cq15), (by rw [fr_ (m + 16) (by omega)]; exact cq16), (by rw [fr_ (m + 17) (by omega)]; exact cq17)⟩, hsc, rfl⟩, (fun q hq => fr_ q (by omega))⟩

set_option maxHeartbeats 600000 in
set_option maxRecDepth 100000 in
theorem c_X10_ring {G : Gx} {h : Hp} {nx m : Nat} {it : Nat} {φ : Fs} {ps : List (Nat × Fs)} {im : Nat → Option (Nat × Fs)} {V : RV} {n : Nat} {T : Nat → Int} {ft : Nat} (hM : MS G h m it φ ps im V n T ft) (hV8 : 0 ≤ V.1 ∧ V.1 ≤ 8) {p : Int} (rp : -2147483648 ≤ p ∧ p ≤ 2147483647) : Con G yX10_ring cX10_ring 2 (some .int) 2 0 0 [.ref m, vi p] h nx (PI fun z h' => z = rnF V p ∧ MT G h' m 0 it φ ps im V n T ft ∧ ∀ q : Nat, (q < m ∨ m + 17 < q) → h' q = h q) := by
  obtain ⟨th, s, ⟨hm, cq1, cq2, cq3, cq4, cq5, cq6, cq7, cq8, cq9, cq10, cq11, cq12, cq13, cq14, cq15, cq16, cq17⟩, hsc, hth⟩ := hM
  obtain ⟨z1, z6, z9, z14, z17, z15, z16⟩ := id hsc
  obtain ⟨Q, hv, hq⟩ := id cq14
  refine Con.of v_X10_ring.2.2.2.2.2.1 (Nat.le_of_ble_eq_true rfl) (lv := [(0, .ref m), (1, vi p)]) rfl (fun X k => ?_)
  generalize hQQ : QM G X nx 0 0 _ = QQ
  have fr0 : ∀ q : Nat, q ≠ m → h q = h q := fun _ _ => rfl
  refine g_aload_n k rfl dX10_ring_0 ?_
  refine g_iconst k dX10_ring_1 ?_
  refine g_put k 10 0 (C := RX10) (T := TX10) (N := 38) fl_X10_1 rfl wi_X10 tyX10 tyX10_ok nmX10 (by decide) rfl rfl rfl rfl hm (Nat.le_of_ble_eq_true rfl) (fs2 := mol m (fu s 0 0)) rfl rfl dX10_ring_2 (fun h2 eh2 => ?_)
  have hm_ : h2 m = some (mo m (fu s 0 0)) := (congrFun eh2 _).trans hup_s
  have hv_ : h2 (m + 14) = some (ai G 8 Q) := (congrFun eh2 _).trans ((hup_n (by omega)).trans hv)
  have fr_ : ∀ q : Nat, q ≠ m → h2 q = h q := fun q hq => (congrFun eh2 q).trans ((hup_n (by omega)).trans (fr0 q hq))
  refine g_iload_n k rfl dX10_ring_5 ?_
  refine g_iconst k dX10_ring_6 ?_
  refine g_aload_n k rfl dX10_ring_7 ?_
  refine g_get k 10 28 (v := vi (s 14)) (C := RX10) (T := TX10) (N := 38) fl_X10_115 rfl wi_X10 (by decide) rfl hm_ rfl dX10_ring_8 ?_
  refine g_cSi k (As := [vi p, vi 1, vi (s 14)]) v_X10_isIn ml_X10_224 (c_X10_isIn rp (by omega) (by omega)) (by omega) (by omega) rfl (Nat.le_of_ble_eq_true rfl) rfl dX10_ring_11 (fun r11 h11 p11 => ?_)
  obtain ⟨eh11, p11⟩ := p11
  have eh11 := eh11.symm; subst eh11
  have q11 := p11
  have q11r := q11.r
  refine g_if_eq k (tgt := 28) (by omega) dX10_ring_14 (by decide) (fun c14 => ?_) (fun c14 => ?_)
  · skip
    refine g_iconst k dX10_ring_28 ?_
    rw [← hQQ]
    refine g_ireti k rfl dX10_ring_29 ?_
    exact ⟨(by unfold rnF; rw [if_neg (fun g => q11.f (by omega) (by omega))]), ⟨_, ⟨hm_, ((fr_ (m + 1) (by omega)).trans cq1), (by rw [fr_ (m + 2) (by omega)]; exact cq2), (by rw [fr_ (m + 3) (by omega)]; exact cq3), (by rw [fr_ (m + 4) (by omega)]; exact cq4), (by rw [fr_ (m + 5) (by omega)]; exact cq5), (by rw [fr_ (m + 6) (by omega)]; exact cq6), (by rw [fr_ (m + 7) (by omega)]; exact cq7), (by rw [fr_ (m + 8) (by omega)]; exact cq8), (by rw [fr_ (m + 9) (by omega)]; exact cq9), (by rw [fr_ (m + 10) (by omega)]; exact cq10), (by rw [fr_ (m + 11) (by omega)]; exact cq11), (by rw [fr_ (m + 12) (by omega)]; exact cq12), (by rw [fr_ (m + 13) (by omega)]; exact cq13), (by rw [fr_ (m + 14) (by omega)]; exact cq14), (by rw [fr_ (m + 15) (by omega)]; exact cq15), (by rw [fr_ (m + 16) (by omega)]; exact cq16), (by rw [fr_ (m + 17) (by omega)]; exact cq17)⟩, hsc, rfl⟩, (fun q hq => fr_ q (by omega))⟩
  · skip
    have hin := q11.t (by omega)
    refine g_aload_n k rfl dX10_ring_17 ?_
    refine g_get k 10 23 (v := .ref (m + 14)) (C := RX10) (T := TX10) (N := 38) fl_X10_112 rfl wi_X10 (by decide) rfl hm_ rfl dX10_ring_18 ?_
    refine g_iload_n k rfl dX10_ring_21 ?_
    refine g_iconst k dX10_ring_22 ?_
    refine g_isub k dX10_ring_23 ?_
    refine g_iald k (p.toNat - 1) hv_ (by omega) (by omega) (by decide) dX10_ring_24 ?_
    refine g_goto k (tgt := 29) dX10_ring_25 (by decide) ?_
    rw [← hQQ]
    refine g_ireti k rfl dX10_ring_29 ?_
    exact ⟨(by unfold rnF; rw [if_pos (by omega)]; exact hq _ (by omega)), ⟨_, ⟨hm_, ((fr_ (m + 1) (by omega)).trans cq1), (by rw [fr_ (m + 2) (by omega)]; exact cq2), (by rw [fr_ (m + 3) (by omega)]; exact cq3), (by rw [fr_ (m + 4) (by omega)]; exact cq4), (by rw [fr_ (m + 5) (by omega)]; exact cq5), (by rw [fr_ (m + 6) (by omega)]; exact cq6), (by rw [fr_ (m + 7) (by omega)]; exact cq7), (by rw [fr_ (m + 8) (by omega)]; exact cq8), (by rw [fr_ (m + 9) (by omega)]; exact cq9), (by rw [fr_ (m + 10) (by omega)]; exact cq10), (by rw [fr_ (m + 11) (by omega)]; exact cq11), (by rw [fr_ (m + 12) (by omega)]; exact cq12), (by rw [fr_ (m + 13) (by omega)]; exact cq13), (by rw [fr_ (m + 14) (by omega)]; exact cq14), (by rw [fr_ (m + 15) (by omega)]; exact cq15), (by rw [fr_ (m + 16) (by omega)]; exact cq16), (by rw [fr_ (m + 17) (by omega)]; exact cq17)⟩, hsc, rfl⟩, (fun q hq => fr_ q (by omega))⟩

set_option maxHeartbeats 600000 in
set_option maxRecDepth 100000 in
theorem c_X10_now {G : Gx} {h : Hp} {nx m : Nat} {it : Nat} {φ : Fs} {ps : List (Nat × Fs)} {im : Nat → Option (Nat × Fs)} {V : RV} {n : Nat} {T : Nat → Int} {ft : Nat} (hM : MS G h m it φ ps im V n T ft) (hS : Sm it φ) {L : Nat} (hL : isL φ it L) {p : Int} (rp : -2147483648 ≤ p ∧ p ≤ 2147483647) : Con G yX10_now cX10_now 2 (some .int) 5 0 0 [.ref m, vi p] h nx (PI fun z h' => z = nwF it φ L ps.length n p ∧ MT G h' m 0 it φ ps im V n T ft ∧ ∀ q : Nat, (q < m ∨ m + 17 < q) → h' q = h q) := by
  obtain ⟨th, s, ⟨hm, cq1, cq2, cq3, cq4, cq5, cq6, cq7, cq8, cq9, cq10, cq11, cq12, cq13, cq14, cq15, cq16, cq17⟩, hsc, hth⟩ := hM
  obtain ⟨z1, z6, z9, z14, z17, z15, z16⟩ := id hsc
  obtain ⟨N, hn, hR⟩ := id cq2
  obtain ⟨S, hu⟩ := id cq11
  refine Con.of v_X10_now.2.2.2.2.2.1 (Nat.le_of_ble_eq_true rfl) (lv := [(0, .ref m), (1, vi p)]) rfl (fun X k => ?_)
  generalize hQQ : QM G X nx 0 0 _ = QQ
  have fr0 : ∀ q : Nat, (q ≠ m ∧ q ≠ m + 11) → h q = h q := fun _ _ => rfl
  refine g_aload_n k rfl dX10_now_0 ?_
  refine g_iconst k dX10_now_1 ?_
  refine g_put k 10 0 (C := RX10) (T := TX10) (N := 38) fl_X10_1 rfl wi_X10 tyX10 tyX10_ok nmX10 (by decide) rfl rfl rfl rfl hm (Nat.le_of_ble_eq_true rfl) (fs2 := mol m (fu s 0 0)) rfl rfl dX10_now_2 (fun h2 eh2 => ?_)
  have hm_ : h2 m = some (mo m (fu s 0 0)) := (congrFun eh2 _).trans hup_s
  have hn_ : h2 (m + 2) = some (ai G 86 N) := (congrFun eh2 _).trans ((hup_n (by omega)).trans hn)
  have hu_ : h2 (m + 11) = some (ai G 64 S) := (congrFun eh2 _).trans ((hup_n (by omega)).trans hu)
  have fr_ : ∀ q : Nat, (q ≠ m ∧ q ≠ m + 11) → h2 q = h q := fun q hq => (congrFun eh2 q).trans ((hup_n (by omega)).trans (fr0 q hq))
  refine g_iload_n k rfl dX10_now_5 ?_
  rcases (show p < 0 ∨ 5 < p ∨ p = 0 ∨ p = 1 ∨ p = 2 ∨ p = 3 ∨ p = 4 ∨ p = 5 by omega) with c6 | c6 | c6 | c6 | c6 | c6 | c6 | c6
  · skip
    refine g_tabOut k (tgt := 78) (by omega) (by omega) dX10_now_6 (by decide) ?_
    refine g_iconst k dX10_now_78 ?_
    rw [← hQQ]
    refine g_ireti k rfl dX10_now_79 ?_
    exact ⟨(by unfold nwF; rw [if_neg (by omega), if_neg (by omega), if_neg (by omega), if_neg (by omega), if_neg (by omega), if_neg (by omega)]), ⟨_, ⟨hm_, ((fr_ (m + 1) (by omega)).trans cq1), (by rw [fr_ (m + 2) (by omega)]; exact cq2), (by rw [fr_ (m + 3) (by omega)]; exact cq3), (by rw [fr_ (m + 4) (by omega)]; exact cq4), (by rw [fr_ (m + 5) (by omega)]; exact cq5), (by rw [fr_ (m + 6) (by omega)]; exact cq6), (by rw [fr_ (m + 7) (by omega)]; exact cq7), (by rw [fr_ (m + 8) (by omega)]; exact cq8), (by rw [fr_ (m + 9) (by omega)]; exact cq9), (by rw [fr_ (m + 10) (by omega)]; exact cq10), ⟨_, hu_⟩, (by rw [fr_ (m + 12) (by omega)]; exact cq12), (by rw [fr_ (m + 13) (by omega)]; exact cq13), (by rw [fr_ (m + 14) (by omega)]; exact cq14), (by rw [fr_ (m + 15) (by omega)]; exact cq15), (by rw [fr_ (m + 16) (by omega)]; exact cq16), (by rw [fr_ (m + 17) (by omega)]; exact cq17)⟩, hsc, rfl⟩, (fun q hq => fr_ q (by omega))⟩
  · skip
    refine g_tabOut k (tgt := 78) (by omega) (by omega) dX10_now_6 (by decide) ?_
    refine g_iconst k dX10_now_78 ?_
    rw [← hQQ]
    refine g_ireti k rfl dX10_now_79 ?_
    exact ⟨(by unfold nwF; rw [if_neg (by omega), if_neg (by omega), if_neg (by omega), if_neg (by omega), if_neg (by omega), if_neg (by omega)]), ⟨_, ⟨hm_, ((fr_ (m + 1) (by omega)).trans cq1), (by rw [fr_ (m + 2) (by omega)]; exact cq2), (by rw [fr_ (m + 3) (by omega)]; exact cq3), (by rw [fr_ (m + 4) (by omega)]; exact cq4), (by rw [fr_ (m + 5) (by omega)]; exact cq5), (by rw [fr_ (m + 6) (by omega)]; exact cq6), (by rw [fr_ (m + 7) (by omega)]; exact cq7), (by rw [fr_ (m + 8) (by omega)]; exact cq8), (by rw [fr_ (m + 9) (by omega)]; exact cq9), (by rw [fr_ (m + 10) (by omega)]; exact cq10), ⟨_, hu_⟩, (by rw [fr_ (m + 12) (by omega)]; exact cq12), (by rw [fr_ (m + 13) (by omega)]; exact cq13), (by rw [fr_ (m + 14) (by omega)]; exact cq14), (by rw [fr_ (m + 15) (by omega)]; exact cq15), (by rw [fr_ (m + 16) (by omega)]; exact cq16), (by rw [fr_ (m + 17) (by omega)]; exact cq17)⟩, hsc, rfl⟩, (fun q hq => fr_ q (by omega))⟩
  · skip
    refine g_tabIn k (off := 38) (tgt := 44) (by omega) (by omega) (by omega) (by rw [c6]; rfl) dX10_now_6 (by decide) ?_
    refine g_aload_n k rfl dX10_now_44 ?_
    refine g_cVi k 10 (As := []) v_X10_items rfl rfl hm_ ml_X10_228 (c_X10_items hm_ hn_ hR hS) (by omega) (by omega) rfl (Nat.le_of_ble_eq_true rfl) rfl dX10_now_45 (fun r45 h45 p45 => ?_)
    obtain ⟨eh45, p45⟩ := p45
    have eh45 := eh45.symm; subst eh45
    subst p45
    rw [← hQQ]
    refine g_ireti k rfl dX10_now_48 ?_
    exact ⟨(by unfold nwF; rw [if_pos (by omega)]), ⟨_, ⟨hm_, ((fr_ (m + 1) (by omega)).trans cq1), (by rw [fr_ (m + 2) (by omega)]; exact cq2), (by rw [fr_ (m + 3) (by omega)]; exact cq3), (by rw [fr_ (m + 4) (by omega)]; exact cq4), (by rw [fr_ (m + 5) (by omega)]; exact cq5), (by rw [fr_ (m + 6) (by omega)]; exact cq6), (by rw [fr_ (m + 7) (by omega)]; exact cq7), (by rw [fr_ (m + 8) (by omega)]; exact cq8), (by rw [fr_ (m + 9) (by omega)]; exact cq9), (by rw [fr_ (m + 10) (by omega)]; exact cq10), ⟨_, hu_⟩, (by rw [fr_ (m + 12) (by omega)]; exact cq12), (by rw [fr_ (m + 13) (by omega)]; exact cq13), (by rw [fr_ (m + 14) (by omega)]; exact cq14), (by rw [fr_ (m + 15) (by omega)]; exact cq15), (by rw [fr_ (m + 16) (by omega)]; exact cq16), (by rw [fr_ (m + 17) (by omega)]; exact cq17)⟩, hsc, rfl⟩, (fun q hq => fr_ q (by omega))⟩
  · skip
    refine g_tabIn k (off := 43) (tgt := 49) (by omega) (by omega) (by omega) (by rw [c6]; rfl) dX10_now_6 (by decide) ?_
    refine g_aload_n k rfl dX10_now_49 ?_
    refine g_cVi k 10 (As := []) v_X10_facts rfl rfl hm_ ml_X10_237 (c_X10_facts hm_ hn_ hR hS) (by omega) (by omega) rfl (Nat.le_of_ble_eq_true rfl) rfl dX10_now_50 (fun r50 h50 p50 => ?_)
    obtain ⟨eh50, p50⟩ := p50
    have eh50 := eh50.symm; subst eh50
    subst p50
    rw [← hQQ]
    refine g_ireti k rfl dX10_now_53 ?_
    exact ⟨(by unfold nwF; rw [if_neg (by omega), if_pos (by omega)]), ⟨_, ⟨hm_, ((fr_ (m + 1) (by omega)).trans cq1), (by rw [fr_ (m + 2) (by omega)]; exact cq2), (by rw [fr_ (m + 3) (by omega)]; exact cq3), (by rw [fr_ (m + 4) (by omega)]; exact cq4), (by rw [fr_ (m + 5) (by omega)]; exact cq5), (by rw [fr_ (m + 6) (by omega)]; exact cq6), (by rw [fr_ (m + 7) (by omega)]; exact cq7), (by rw [fr_ (m + 8) (by omega)]; exact cq8), (by rw [fr_ (m + 9) (by omega)]; exact cq9), (by rw [fr_ (m + 10) (by omega)]; exact cq10), ⟨_, hu_⟩, (by rw [fr_ (m + 12) (by omega)]; exact cq12), (by rw [fr_ (m + 13) (by omega)]; exact cq13), (by rw [fr_ (m + 14) (by omega)]; exact cq14), (by rw [fr_ (m + 15) (by omega)]; exact cq15), (by rw [fr_ (m + 16) (by omega)]; exact cq16), (by rw [fr_ (m + 17) (by omega)]; exact cq17)⟩, hsc, rfl⟩, (fun q hq => fr_ q (by omega))⟩
  · skip
    refine g_tabIn k (off := 48) (tgt := 54) (by omega) (by omega) (by omega) (by rw [c6]; rfl) dX10_now_6 (by decide) ?_
    refine g_aload_n k rfl dX10_now_54 ?_
    refine g_cVi k 10 (As := []) v_X10_befores rfl rfl hm_ ml_X10_240 (c_X10_befores hm_ hn_ hR hS) (by omega) (by omega) rfl (Nat.le_of_ble_eq_true rfl) rfl dX10_now_55 (fun r55 h55 p55 => ?_)
    obtain ⟨eh55, p55⟩ := p55
    have eh55 := eh55.symm; subst eh55
    subst p55
    rw [← hQQ]
    refine g_ireti k rfl dX10_now_58 ?_
    exact ⟨(by unfold nwF; rw [if_neg (by omega), if_neg (by omega), if_pos (by omega)]), ⟨_, ⟨hm_, ((fr_ (m + 1) (by omega)).trans cq1), (by rw [fr_ (m + 2) (by omega)]; exact cq2), (by rw [fr_ (m + 3) (by omega)]; exact cq3), (by rw [fr_ (m + 4) (by omega)]; exact cq4), (by rw [fr_ (m + 5) (by omega)]; exact cq5), (by rw [fr_ (m + 6) (by omega)]; exact cq6), (by rw [fr_ (m + 7) (by omega)]; exact cq7), (by rw [fr_ (m + 8) (by omega)]; exact cq8), (by rw [fr_ (m + 9) (by omega)]; exact cq9), (by rw [fr_ (m + 10) (by omega)]; exact cq10), ⟨_, hu_⟩, (by rw [fr_ (m + 12) (by omega)]; exact cq12), (by rw [fr_ (m + 13) (by omega)]; exact cq13), (by rw [fr_ (m + 14) (by omega)]; exact cq14), (by rw [fr_ (m + 15) (by omega)]; exact cq15), (by rw [fr_ (m + 16) (by omega)]; exact cq16), (by rw [fr_ (m + 17) (by omega)]; exact cq17)⟩, hsc, rfl⟩, (fun q hq => fr_ q (by omega))⟩
  · skip
    refine g_tabIn k (off := 53) (tgt := 59) (by omega) (by omega) (by omega) (by rw [c6]; rfl) dX10_now_6 (by decide) ?_
    refine g_aload_n k rfl dX10_now_59 ?_
    refine g_aload_n k rfl dX10_now_60 ?_
    refine g_get k 10 10 (v := .ref (m + 2)) (C := RX10) (T := TX10) (N := 38) fl_X10_74 rfl wi_X10 (by decide) rfl hm_ rfl dX10_now_61 ?_
    refine g_cVi k 10 (As := [.ref (m + 2)]) v_X10_leastOf rfl rfl hm_ ml_X10_243 (c_X10_leastOf hm_ hn_ hR hS (by omega) hu_ hL) (by omega) (by omega) rfl (Nat.le_of_ble_eq_true rfl) rfl dX10_now_64 (fun r64 h64 p64 => ?_)
    obtain ⟨p64e, ⟨S2, nu⟩, nfr⟩ := p64
    subst p64e
    have hm__1 : h64 m = some (mo m (fu s 0 0)) := (nfr _ (by omega)).trans hm_
    have hn__1 : h64 (m + 2) = some (ai G 86 N) := (nfr _ (by omega)).trans hn_
    have hu__1 : h64 (m + 11) = some (ai G 64 S2) := nu
    have fr__1 : ∀ q : Nat, (q ≠ m ∧ q ≠ m + 11) → h64 q = h q := fun q hq => (nfr q (by omega)).trans (fr_ q hq)
    rw [← hQQ]
    refine g_ireti k rfl dX10_now_67 ?_
    exact ⟨(by unfold nwF; rw [if_neg (by omega), if_neg (by omega), if_neg (by omega), if_pos (by omega)]), ⟨_, ⟨hm__1, ((fr__1 (m + 1) (by omega)).trans cq1), (by rw [fr__1 (m + 2) (by omega)]; exact cq2), (by rw [fr__1 (m + 3) (by omega)]; exact cq3), (by rw [fr__1 (m + 4) (by omega)]; exact cq4), (by rw [fr__1 (m + 5) (by omega)]; exact cq5), (by rw [fr__1 (m + 6) (by omega)]; exact cq6), (by rw [fr__1 (m + 7) (by omega)]; exact cq7), (by rw [fr__1 (m + 8) (by omega)]; exact cq8), (by rw [fr__1 (m + 9) (by omega)]; exact cq9), (by rw [fr__1 (m + 10) (by omega)]; exact cq10), ⟨_, hu__1⟩, (by rw [fr__1 (m + 12) (by omega)]; exact cq12), (by rw [fr__1 (m + 13) (by omega)]; exact cq13), (by rw [fr__1 (m + 14) (by omega)]; exact cq14), (by rw [fr__1 (m + 15) (by omega)]; exact cq15), (by rw [fr__1 (m + 16) (by omega)]; exact cq16), (by rw [fr__1 (m + 17) (by omega)]; exact cq17)⟩, hsc, rfl⟩, (fun q hq => fr__1 q (by omega))⟩
  · skip
    refine g_tabIn k (off := 62) (tgt := 68) (by omega) (by omega) (by omega) (by rw [c6]; rfl) dX10_now_6 (by decide) ?_
    refine g_aload_n k rfl dX10_now_68 ?_
    refine g_get k 10 19 (v := vi (s 9)) (C := RX10) (T := TX10) (N := 38) fl_X10_167 rfl wi_X10 (by decide) rfl hm_ rfl dX10_now_69 ?_
    rw [← hQQ]
    refine g_ireti k rfl dX10_now_72 ?_
    exact ⟨(by unfold nwF; rw [if_neg (by omega), if_neg (by omega), if_neg (by omega), if_neg (by omega), if_pos (by omega)]; exact z9), ⟨_, ⟨hm_, ((fr_ (m + 1) (by omega)).trans cq1), (by rw [fr_ (m + 2) (by omega)]; exact cq2), (by rw [fr_ (m + 3) (by omega)]; exact cq3), (by rw [fr_ (m + 4) (by omega)]; exact cq4), (by rw [fr_ (m + 5) (by omega)]; exact cq5), (by rw [fr_ (m + 6) (by omega)]; exact cq6), (by rw [fr_ (m + 7) (by omega)]; exact cq7), (by rw [fr_ (m + 8) (by omega)]; exact cq8), (by rw [fr_ (m + 9) (by omega)]; exact cq9), (by rw [fr_ (m + 10) (by omega)]; exact cq10), ⟨_, hu_⟩, (by rw [fr_ (m + 12) (by omega)]; exact cq12), (by rw [fr_ (m + 13) (by omega)]; exact cq13), (by rw [fr_ (m + 14) (by omega)]; exact cq14), (by rw [fr_ (m + 15) (by omega)]; exact cq15), (by rw [fr_ (m + 16) (by omega)]; exact cq16), (by rw [fr_ (m + 17) (by omega)]; exact cq17)⟩, hsc, rfl⟩, (fun q hq => fr_ q (by omega))⟩
  · skip
    refine g_tabIn k (off := 67) (tgt := 73) (by omega) (by omega) (by omega) (by rw [c6]; rfl) dX10_now_6 (by decide) ?_
    refine g_aload_n k rfl dX10_now_73 ?_
    refine g_get k 10 2 (v := vi (s 1)) (C := RX10) (T := TX10) (N := 38) fl_X10_11 rfl wi_X10 (by decide) rfl hm_ rfl dX10_now_74 ?_
    rw [← hQQ]
    refine g_ireti k rfl dX10_now_77 ?_
    exact ⟨(by unfold nwF; rw [if_neg (by omega), if_neg (by omega), if_neg (by omega), if_neg (by omega), if_neg (by omega), if_pos (by omega)]; exact z1), ⟨_, ⟨hm_, ((fr_ (m + 1) (by omega)).trans cq1), (by rw [fr_ (m + 2) (by omega)]; exact cq2), (by rw [fr_ (m + 3) (by omega)]; exact cq3), (by rw [fr_ (m + 4) (by omega)]; exact cq4), (by rw [fr_ (m + 5) (by omega)]; exact cq5), (by rw [fr_ (m + 6) (by omega)]; exact cq6), (by rw [fr_ (m + 7) (by omega)]; exact cq7), (by rw [fr_ (m + 8) (by omega)]; exact cq8), (by rw [fr_ (m + 9) (by omega)]; exact cq9), (by rw [fr_ (m + 10) (by omega)]; exact cq10), ⟨_, hu_⟩, (by rw [fr_ (m + 12) (by omega)]; exact cq12), (by rw [fr_ (m + 13) (by omega)]; exact cq13), (by rw [fr_ (m + 14) (by omega)]; exact cq14), (by rw [fr_ (m + 15) (by omega)]; exact cq15), (by rw [fr_ (m + 16) (by omega)]; exact cq16), (by rw [fr_ (m + 17) (by omega)]; exact cq17)⟩, hsc, rfl⟩, (fun q hq => fr_ q (by omega))⟩

set_option maxHeartbeats 600000 in
set_option maxRecDepth 100000 in
theorem c_X10_about {G : Gx} {h : Hp} {nx m : Nat} {it : Nat} {φ : Fs} {ps : List (Nat × Fs)} {im : Nat → Option (Nat × Fs)} {V : RV} {n : Nat} {T : Nat → Int} {ft : Nat} (hM : MS G h m it φ ps im V n T ft) (hS : Sm it φ) {p p2 : Int} (rp : -2147483648 ≤ p ∧ p ≤ 2147483647) (rp2 : -2147483648 ≤ p2 ∧ p2 ≤ 2147483647) : Con G yX10_about cX10_about 3 (some .int) 4 0 0 [.ref m, vi p, vi p2] h nx (PI fun z h' => (((hasI it p ∧ hasI it p2 ∧ p ≠ p2) → z = ix φ p p2) ∧ (¬ (hasI it p ∧ hasI it p2 ∧ p ≠ p2) → z = -1)) ∧ MT G h' m 0 it φ ps im V n T ft ∧ ∀ q : Nat, (q < m ∨ m + 17 < q) → h' q = h q) := by
  obtain ⟨th, s, ⟨hm, cq1, cq2, cq3, cq4, cq5, cq6, cq7, cq8, cq9, cq10, cq11, cq12, cq13, cq14, cq15, cq16, cq17⟩, hsc, hth⟩ := hM
  obtain ⟨z1, z6, z9, z14, z17, z15, z16⟩ := id hsc
  obtain ⟨N, hn, hR⟩ := id cq2
  refine Con.of v_X10_about.2.2.2.2.2.1 (Nat.le_of_ble_eq_true rfl) (lv := [(0, .ref m), (1, vi p), (2, vi p2)]) rfl (fun X k => ?_)
  generalize hQQ : QM G X nx 0 0 _ = QQ
  have fr0 : ∀ q : Nat, q ≠ m → h q = h q := fun _ _ => rfl
  refine g_aload_n k rfl dX10_about_0 ?_
  refine g_iconst k dX10_about_1 ?_
  refine g_put k 10 0 (C := RX10) (T := TX10) (N := 38) fl_X10_1 rfl wi_X10 tyX10 tyX10_ok nmX10 (by decide) rfl rfl rfl rfl hm (Nat.le_of_ble_eq_true rfl) (fs2 := mol m (fu s 0 0)) rfl rfl dX10_about_2 (fun h2 eh2 => ?_)
  have hm_ : h2 m = some (mo m (fu s 0 0)) := (congrFun eh2 _).trans hup_s
  have hn_ : h2 (m + 2) = some (ai G 86 N) := (congrFun eh2 _).trans ((hup_n (by omega)).trans hn)
  have fr_ : ∀ q : Nat, q ≠ m → h2 q = h q := fun q hq => (congrFun eh2 q).trans ((hup_n (by omega)).trans (fr0 q hq))
  refine g_aload_n k rfl dX10_about_5 ?_
  refine g_iload_n k rfl dX10_about_6 ?_
  refine g_iload_n k rfl dX10_about_7 ?_
  refine g_cVi k 10 (As := [vi p, vi p2]) v_X10_areTwo rfl rfl hm_ ml_X10_234 (c_X10_areTwo hm_ hn_ hR hS rp rp2) (by omega) (by omega) rfl (Nat.le_of_ble_eq_true rfl) rfl dX10_about_8 (fun r8 h8 p8 => ?_)
  obtain ⟨eh8, p8⟩ := p8
  have eh8 := eh8.symm; subst eh8
  have q8 := p8
  have q8r := q8.r
  refine g_if_eq k (tgt := 26) (by omega) dX10_about_11 (by decide) (fun c11 => ?_) (fun c11 => ?_)
  · skip
    refine g_iconst k dX10_about_26 ?_
    rw [← hQQ]
    refine g_ireti k rfl dX10_about_27 ?_
    exact ⟨⟨fun q => absurd q (q8.f (by omega)), fun _ => rfl⟩, ⟨_, ⟨hm_, ((fr_ (m + 1) (by omega)).trans cq1), (by rw [fr_ (m + 2) (by omega)]; exact cq2), (by rw [fr_ (m + 3) (by omega)]; exact cq3), (by rw [fr_ (m + 4) (by omega)]; exact cq4), (by rw [fr_ (m + 5) (by omega)]; exact cq5), (by rw [fr_ (m + 6) (by omega)]; exact cq6), (by rw [fr_ (m + 7) (by omega)]; exact cq7), (by rw [fr_ (m + 8) (by omega)]; exact cq8), (by rw [fr_ (m + 9) (by omega)]; exact cq9), (by rw [fr_ (m + 10) (by omega)]; exact cq10), (by rw [fr_ (m + 11) (by omega)]; exact cq11), (by rw [fr_ (m + 12) (by omega)]; exact cq12), (by rw [fr_ (m + 13) (by omega)]; exact cq13), (by rw [fr_ (m + 14) (by omega)]; exact cq14), (by rw [fr_ (m + 15) (by omega)]; exact cq15), (by rw [fr_ (m + 16) (by omega)]; exact cq16), (by rw [fr_ (m + 17) (by omega)]; exact cq17)⟩, hsc, rfl⟩, (fun q hq => fr_ q (by omega))⟩
  · skip
    refine g_aload_n k rfl dX10_about_14 ?_
    refine g_get k 10 10 (v := .ref (m + 2)) (C := RX10) (T := TX10) (N := 38) fl_X10_74 rfl wi_X10 (by decide) rfl hm_ rfl dX10_about_15 ?_
    refine g_iload_n k rfl dX10_about_18 ?_
    refine g_iload_n k rfl dX10_about_19 ?_
    refine g_cSi k (As := [.ref (m + 2), vi p, vi p2]) v_X10_factOf ml_X10_142 (c_X10_factOf hn_ hR hS rp rp2) (by omega) (by omega) rfl (Nat.le_of_ble_eq_true rfl) rfl dX10_about_20 (fun r20 h20 p20 => ?_)
    obtain ⟨eh20, p20⟩ := p20
    have eh20 := eh20.symm; subst eh20
    subst p20
    refine g_goto k (tgt := 27) dX10_about_23 (by decide) ?_
    rw [← hQQ]
    refine g_ireti k rfl dX10_about_27 ?_
    exact ⟨⟨fun _ => rfl, fun q => absurd (q8.t (by omega)) q⟩, ⟨_, ⟨hm_, ((fr_ (m + 1) (by omega)).trans cq1), (by rw [fr_ (m + 2) (by omega)]; exact cq2), (by rw [fr_ (m + 3) (by omega)]; exact cq3), (by rw [fr_ (m + 4) (by omega)]; exact cq4), (by rw [fr_ (m + 5) (by omega)]; exact cq5), (by rw [fr_ (m + 6) (by omega)]; exact cq6), (by rw [fr_ (m + 7) (by omega)]; exact cq7), (by rw [fr_ (m + 8) (by omega)]; exact cq8), (by rw [fr_ (m + 9) (by omega)]; exact cq9), (by rw [fr_ (m + 10) (by omega)]; exact cq10), (by rw [fr_ (m + 11) (by omega)]; exact cq11), (by rw [fr_ (m + 12) (by omega)]; exact cq12), (by rw [fr_ (m + 13) (by omega)]; exact cq13), (by rw [fr_ (m + 14) (by omega)]; exact cq14), (by rw [fr_ (m + 15) (by omega)]; exact cq15), (by rw [fr_ (m + 16) (by omega)]; exact cq16), (by rw [fr_ (m + 17) (by omega)]; exact cq17)⟩, hsc, rfl⟩, (fun q hq => fr_ q (by omega))⟩

set_option maxHeartbeats 600000 in
set_option maxRecDepth 100000 in
theorem c_X10_test {G : Gx} {h : Hp} {nx m : Nat} {it : Nat} {φ : Fs} {ps : List (Nat × Fs)} {im : Nat → Option (Nat × Fs)} {V : RV} {n : Nat} {T : Nat → Int} {ft : Nat} (hM : MS G h m it φ ps im V n T ft) (hS : Sm it φ) (hG : Good φ) {kx p p2 : Int} (rkx : -2147483648 ≤ kx ∧ kx ≤ 2147483647) (rp : -2147483648 ≤ p ∧ p ≤ 2147483647) (rp2 : -2147483648 ≤ p2 ∧ p2 ≤ 2147483647) : Con G yX10_test cX10_test 4 (some .int) 5 0 0 [.ref m, vi kx, vi p, vi p2] h nx (PI fun z h' => z = (tsF it φ V kx p p2).1 ∧ MT G h' m 0 it φ ps im (tsF it φ V kx p p2).2 n T ft ∧ ∀ q : Nat, (q < m ∨ m + 17 < q) → h' q = h q) := by
  obtain ⟨th, s, ⟨hm, cq1, cq2, cq3, cq4, cq5, cq6, cq7, cq8, cq9, cq10, cq11, cq12, cq13, cq14, cq15, cq16, cq17⟩, hsc, hth⟩ := hM
  obtain ⟨z1, z6, z9, z14, z17, z15, z16⟩ := id hsc
  obtain ⟨N, hn, hR⟩ := id cq2
  obtain ⟨Bt, hb⟩ := id cq12
  obtain ⟨R, hr⟩ := id cq13
  obtain ⟨Q, hv, hq⟩ := id cq14
  refine Con.of v_X10_test.2.2.2.2.2.1 (Nat.le_of_ble_eq_true rfl) (lv := [(0, .ref m), (1, vi kx), (2, vi p), (3, vi p2)]) rfl (fun X k => ?_)
  generalize hQQ : QM G X nx 0 0 _ = QQ
  have fr0 : ∀ q : Nat, (q ≠ m ∧ q ≠ m + 12 ∧ q ≠ m + 13 ∧ q ≠ m + 14) → h q = h q := fun _ _ => rfl
  refine g_aload_n k rfl dX10_test_0 ?_
  refine g_iconst k dX10_test_1 ?_
  refine g_put k 10 0 (C := RX10) (T := TX10) (N := 38) fl_X10_1 rfl wi_X10 tyX10 tyX10_ok nmX10 (by decide) rfl rfl rfl rfl hm (Nat.le_of_ble_eq_true rfl) (fs2 := mol m (fu s 0 0)) rfl rfl dX10_test_2 (fun h2 eh2 => ?_)
  have hm_ : h2 m = some (mo m (fu s 0 0)) := (congrFun eh2 _).trans hup_s
  have hn_ : h2 (m + 2) = some (ai G 86 N) := (congrFun eh2 _).trans ((hup_n (by omega)).trans hn)
  have hb_ : h2 (m + 12) = some (ai G 72 Bt) := (congrFun eh2 _).trans ((hup_n (by omega)).trans hb)
  have hr_ : h2 (m + 13) = some (ai G 8 R) := (congrFun eh2 _).trans ((hup_n (by omega)).trans hr)
  have hv_ : h2 (m + 14) = some (ai G 8 Q) := (congrFun eh2 _).trans ((hup_n (by omega)).trans hv)
  have fr_ : ∀ q : Nat, (q ≠ m ∧ q ≠ m + 12 ∧ q ≠ m + 13 ∧ q ≠ m + 14) → h2 q = h q := fun q hq => (congrFun eh2 q).trans ((hup_n (by omega)).trans (fr0 q hq))
  refine g_aload_n k rfl dX10_test_5 ?_
  refine g_iload_n k rfl dX10_test_6 ?_
  refine g_iload_n k rfl dX10_test_7 ?_
  refine g_iload_n k rfl dX10_test_8 ?_
  refine g_cVi k 10 (As := [vi kx, vi p, vi p2]) v_X10_mayTell rfl rfl hm_ ml_X10_253 (c_X10_mayTell hm_ hn_ hR hS rkx rp rp2) (by omega) (by omega) rfl (Nat.le_of_ble_eq_true rfl) rfl dX10_test_9 (fun r9 h9 p9 => ?_)
  obtain ⟨eh9, p9⟩ := p9
  have eh9 := eh9.symm; subst eh9
  have q9 := p9
  have q9r := q9.r
  refine g_if_ne k (tgt := 17) (by omega) dX10_test_12 (by decide) (fun c12 => ?_) (fun c12 => ?_)
  · skip
    have hnd := q9.t (by omega)
    obtain ⟨k1, ek1⟩ : ∃ k1 : Nat, kx = k1 := ⟨kx.toNat, by have := hnd.1; omega⟩
    obtain ⟨x1, ex1, hx1⟩ := nat_of hnd.2.1.1
    obtain ⟨y1, ey1, hy1⟩ := nat_of hnd.2.1.2.1
    have hk1 : k1 ≤ 1 := by have := hnd.1; omega
    have hne : x1 ≠ y1 := by have := hnd.2.1.2.2; omega
    have hix : ix φ (x1 : Int) (y1 : Int) = -1 := by rw [← ex1, ← ey1]; exact hnd.2.2
    have hnd2 : nmd it φ (k1 : Int) (x1 : Int) (y1 : Int) := by rw [← ek1, ← ex1, ← ey1]; exact hnd
    rw [ek1, ex1, ey1]
    rw [ek1, ex1, ey1] at hQQ
    refine g_aload_n k rfl dX10_test_17 ?_
    refine g_aload_n k rfl dX10_test_18 ?_
    refine g_get k 10 10 (v := .ref (m + 2)) (C := RX10) (T := TX10) (N := 38) fl_X10_74 rfl wi_X10 (by decide) rfl hm_ rfl dX10_test_19 ?_
    refine g_iload_n k rfl dX10_test_22 ?_
    refine g_iload_n k rfl dX10_test_23 ?_
    refine g_iload_n k rfl dX10_test_24 ?_
    refine g_cVi k 10 (As := [.ref (m + 2), vi (k1 : Int), vi (x1 : Int), vi (y1 : Int)]) v_X10_isRefuted rfl rfl hm_ ml_X10_146 (c_X10_isRefuted hm_ hn_ hR hS (by omega) hb_ hr_ hG (k1 := k1) (x := x1) (y := y1) hk1 hx1 hy1 hne) (by omega) (by omega) rfl (Nat.le_of_ble_eq_true rfl) rfl dX10_test_25 (fun r25 h25 p25 => ?_)
    obtain ⟨hz, ⟨sa, Ba, Ra, nm, nb, nr, hsa, hda⟩, nfr⟩ := p25
    have hm__1 : h25 m = some (mo m sa) := nm
    have hn__1 : h25 (m + 2) = some (ai G 86 N) := (nfr _ (by omega)).trans hn_
    have hb__1 : h25 (m + 12) = some (ai G 72 Ba) := nb
    have hr__1 : h25 (m + 13) = some (ai G 8 Ra) := nr
    have hv__1 : h25 (m + 14) = some (ai G 8 Q) := (nfr _ (by omega)).trans hv_
    have fr__1 : ∀ q : Nat, (q ≠ m ∧ q ≠ m + 12 ∧ q ≠ m + 13 ∧ q ≠ m + 14) → h25 q = h q := fun q hq => (nfr q (by omega)).trans (fr_ q hq)
    have hzr := hz.r
    refine g_if_ne k (tgt := 33) (by omega) dX10_test_28 (by decide) (fun c28 => ?_) (fun c28 => ?_)
    · skip
      have hrf := hz.t (by omega)
      have hrv := hda hrf V
      refine g_aload_n k rfl dX10_test_33 ?_
      refine g_cVv k 10 (As := []) v_X10_keepsRing rfl rfl hm__1 ml_X10_150 (c_X10_keepsRing hm__1 hr__1 hv__1 (n := (skN φ 0 it k1 x1 y1).1) (by have := (hda hrf V).1; have := skV_1 (V := V) hrf; omega) (by have := (skN_hit hx1 hy1 hrf).2.1; have := hS.1; omega)) (by omega) (by omega) rfl (Nat.le_of_ble_eq_true rfl) rfl dX10_test_34 (fun h34 p34 => ?_)
      obtain ⟨⟨nm2, Q2, nv, hq2⟩, nfr2⟩ := p34
      have hm__2 : h34 m = some (mo m (fu (fu (fu (fu sa 14 (sa 10)) 15 (sa 11)) 16 (sa 12)) 17 (sa 13))) := nm2
      have hn__2 : h34 (m + 2) = some (ai G 86 N) := (nfr2 _ (by omega)).trans hn__1
      have hb__2 : h34 (m + 12) = some (ai G 72 Ba) := (nfr2 _ (by omega)).trans hb__1
      have hr__2 : h34 (m + 13) = some (ai G 8 Ra) := (nfr2 _ (by omega)).trans hr__1
      have hv__2 : h34 (m + 14) = some (ai G 8 Q2) := nv
      have fr__2 : ∀ q : Nat, (q ≠ m ∧ q ≠ m + 12 ∧ q ≠ m + 13 ∧ q ≠ m + 14) → h34 q = h q := fun q hq => (nfr2 q (by omega)).trans (fr__1 q hq)
      refine g_aload_n k rfl dX10_test_37 ?_
      refine g_get k 10 24 (v := vi (sa 10)) (C := RX10) (T := TX10) (N := 38) fl_X10_196 rfl wi_X10 (by decide) rfl hm__2 rfl dX10_test_38 ?_
      refine g_iconst k dX10_test_41 ?_
      refine g_iadd k dX10_test_42 ?_
      rw [← hQQ]
      refine g_ireti k rfl dX10_test_43 ?_
      have e : tsF it φ V (k1 : Int) (x1 : Int) (y1 : Int) = ((skV φ 0 it k1 x1 y1 V).1, (skV φ 0 it k1 x1 y1 V)) := by unfold tsF; simp only [Int.toNat_natCast]; rw [if_pos hnd2, if_pos hrf]
      rw [e]
      dsimp only
      exact ⟨(show sa 10 + 1 = _ from hrv.1), ⟨_, ⟨hm__2, ((fr__2 (m + 1) (by omega)).trans cq1), ⟨N, hn__2, hR⟩, (by rw [fr__2 (m + 3) (by omega)]; exact cq3), (by rw [fr__2 (m + 4) (by omega)]; exact cq4), (by rw [fr__2 (m + 5) (by omega)]; exact cq5), (by rw [fr__2 (m + 6) (by omega)]; exact cq6), (by rw [fr__2 (m + 7) (by omega)]; exact cq7), (by rw [fr__2 (m + 8) (by omega)]; exact cq8), (by rw [fr__2 (m + 9) (by omega)]; exact cq9), (by rw [fr__2 (m + 10) (by omega)]; exact cq10), (by rw [fr__2 (m + 11) (by omega)]; exact cq11), ⟨_, hb__2⟩, ⟨_, hr__2⟩, ⟨Q2, hv__2, fun i hi => (hq2 i (by have := skV_1 (V := V) hrf; omega)).trans (hrv.2.2.2.2 i hi)⟩, (by rw [fr__2 (m + 15) (by omega)]; exact cq15), (by rw [fr__2 (m + 16) (by omega)]; exact cq16), (by rw [fr__2 (m + 17) (by omega)]; exact cq17)⟩, ⟨(hsa 1 (by omega)).trans z1, (hsa 6 (by omega)).trans z6, (hsa 9 (by omega)).trans z9, (show sa 10 = _ by have := hrv.1; omega), hrv.2.1, hrv.2.2.1, hrv.2.2.2.1⟩, (hsa 0 (by omega))⟩, (fun q hq => fr__2 q (by omega))⟩
    · skip
      refine g_iconst k dX10_test_31 ?_
      rw [← hQQ]
      refine g_ireti k rfl dX10_test_32 ?_
      have hnr := hz.f (by omega)
      have e : tsF it φ V (k1 : Int) (x1 : Int) (y1 : Int) = (0, V) := by unfold tsF; simp only [Int.toNat_natCast]; rw [if_pos hnd2, if_neg hnr]
      rw [e]
      exact ⟨rfl, ⟨_, ⟨hm__1, ((fr__1 (m + 1) (by omega)).trans cq1), ⟨N, hn__1, hR⟩, (by rw [fr__1 (m + 3) (by omega)]; exact cq3), (by rw [fr__1 (m + 4) (by omega)]; exact cq4), (by rw [fr__1 (m + 5) (by omega)]; exact cq5), (by rw [fr__1 (m + 6) (by omega)]; exact cq6), (by rw [fr__1 (m + 7) (by omega)]; exact cq7), (by rw [fr__1 (m + 8) (by omega)]; exact cq8), (by rw [fr__1 (m + 9) (by omega)]; exact cq9), (by rw [fr__1 (m + 10) (by omega)]; exact cq10), (by rw [fr__1 (m + 11) (by omega)]; exact cq11), ⟨_, hb__1⟩, ⟨_, hr__1⟩, ⟨Q, hv__1, hq⟩, (by rw [fr__1 (m + 15) (by omega)]; exact cq15), (by rw [fr__1 (m + 16) (by omega)]; exact cq16), (by rw [fr__1 (m + 17) (by omega)]; exact cq17)⟩, ⟨(hsa 1 (by omega)).trans z1, (hsa 6 (by omega)).trans z6, (hsa 9 (by omega)).trans z9, (hsa 14 (by omega)).trans z14, (hsa 17 (by omega)).trans z17, (hsa 15 (by omega)).trans z15, (hsa 16 (by omega)).trans z16⟩, (hsa 0 (by omega))⟩, (fun q hq => fr__1 q (by omega))⟩
  · skip
    refine g_iconst k dX10_test_15 ?_
    rw [← hQQ]
    refine g_ireti k rfl dX10_test_16 ?_
    have e : tsF it φ V kx p p2 = (-1, V) := by unfold tsF; rw [if_neg (q9.f (by omega))]
    rw [e]
    exact ⟨rfl, ⟨_, ⟨hm_, ((fr_ (m + 1) (by omega)).trans cq1), ⟨N, hn_, hR⟩, (by rw [fr_ (m + 3) (by omega)]; exact cq3), (by rw [fr_ (m + 4) (by omega)]; exact cq4), (by rw [fr_ (m + 5) (by omega)]; exact cq5), (by rw [fr_ (m + 6) (by omega)]; exact cq6), (by rw [fr_ (m + 7) (by omega)]; exact cq7), (by rw [fr_ (m + 8) (by omega)]; exact cq8), (by rw [fr_ (m + 9) (by omega)]; exact cq9), (by rw [fr_ (m + 10) (by omega)]; exact cq10), (by rw [fr_ (m + 11) (by omega)]; exact cq11), ⟨_, hb_⟩, ⟨_, hr_⟩, ⟨Q, hv_, hq⟩, (by rw [fr_ (m + 15) (by omega)]; exact cq15), (by rw [fr_ (m + 16) (by omega)]; exact cq16), (by rw [fr_ (m + 17) (by omega)]; exact cq17)⟩, hsc, rfl⟩, (fun q hq => fr_ q (by omega))⟩

set_option maxHeartbeats 600000 in
set_option maxRecDepth 100000 in
theorem c_X10_tell {G : Gx} {h : Hp} {nx m : Nat} {it : Nat} {φ : Fs} {ps : List (Nat × Fs)} {im : Nat → Option (Nat × Fs)} {V : RV} {n : Nat} {T : Nat → Int} {ft : Nat} (hM : MS G h m it φ ps im V n T ft) (hS : Sm it φ) (hG : Good φ) (hps : PsO ps) {kx p p2 : Int} (rkx : -2147483648 ≤ kx ∧ kx ≤ 2147483647) (rp : -2147483648 ≤ p ∧ p ≤ 2147483647) (rp2 : -2147483648 ≤ p2 ∧ p2 ≤ 2147483647) : Con G yX10_tell cX10_tell 4 (some .int) 5 0 0 [.ref m, vi kx, vi p, vi p2] h nx (PI fun z h' => z = (tlF it φ ps V kx p p2).1 ∧ MT G h' m 0 it (tlF it φ ps V kx p p2).2.1 (tlF it φ ps V kx p p2).2.2.1 im (tlF it φ ps V kx p p2).2.2.2 n T ft ∧ ∀ q : Nat, (q < m ∨ m + 17 < q) → h' q = h q) := by
  obtain ⟨th, s, ⟨hm, cq1, cq2, cq3, cq4, cq5, cq6, cq7, cq8, cq9, cq10, cq11, cq12, cq13, cq14, cq15, cq16, cq17⟩, hsc, hth⟩ := hM
  obtain ⟨z1, z6, z9, z14, z17, z15, z16⟩ := id hsc
  obtain ⟨N, hn, hR⟩ := id cq2
  obtain ⟨Bt, hb⟩ := id cq12
  obtain ⟨R, hr⟩ := id cq13
  obtain ⟨Q, hv, hq⟩ := id cq14
  refine Con.of v_X10_tell.2.2.2.2.2.1 (Nat.le_of_ble_eq_true rfl) (lv := [(0, .ref m), (1, vi kx), (2, vi p), (3, vi p2)]) rfl (fun X k => ?_)
  generalize hQQ : QM G X nx 0 0 _ = QQ
  have fr0 : ∀ q : Nat, (q ≠ m ∧ q ≠ m + 2 ∧ q ≠ m + 5 ∧ q ≠ m + 12 ∧ q ≠ m + 13 ∧ q ≠ m + 14) → h q = h q := fun _ _ => rfl
  refine g_aload_n k rfl dX10_tell_0 ?_
  refine g_iconst k dX10_tell_1 ?_
  refine g_put k 10 0 (C := RX10) (T := TX10) (N := 38) fl_X10_1 rfl wi_X10 tyX10 tyX10_ok nmX10 (by decide) rfl rfl rfl rfl hm (Nat.le_of_ble_eq_true rfl) (fs2 := mol m (fu s 0 0)) rfl rfl dX10_tell_2 (fun h2 eh2 => ?_)
  have hm_ : h2 m = some (mo m (fu s 0 0)) := (congrFun eh2 _).trans hup_s
  have hn_ : h2 (m + 2) = some (ai G 86 N) := (congrFun eh2 _).trans ((hup_n (by omega)).trans hn)
  have hb_ : h2 (m + 12) = some (ai G 72 Bt) := (congrFun eh2 _).trans ((hup_n (by omega)).trans hb)
  have hr_ : h2 (m + 13) = some (ai G 8 R) := (congrFun eh2 _).trans ((hup_n (by omega)).trans hr)
  have hv_ : h2 (m + 14) = some (ai G 8 Q) := (congrFun eh2 _).trans ((hup_n (by omega)).trans hv)
  have fr_ : ∀ q : Nat, (q ≠ m ∧ q ≠ m + 2 ∧ q ≠ m + 5 ∧ q ≠ m + 12 ∧ q ≠ m + 13 ∧ q ≠ m + 14) → h2 q = h q := fun q hq => (congrFun eh2 q).trans ((hup_n (by omega)).trans (fr0 q hq))
  refine g_aload_n k rfl dX10_tell_5 ?_
  refine g_iload_n k rfl dX10_tell_6 ?_
  refine g_iload_n k rfl dX10_tell_7 ?_
  refine g_iload_n k rfl dX10_tell_8 ?_
  refine g_cVi k 10 (As := [vi kx, vi p, vi p2]) v_X10_mayTell rfl rfl hm_ ml_X10_253 (c_X10_mayTell hm_ hn_ hR hS rkx rp rp2) (by omega) (by omega) rfl (Nat.le_of_ble_eq_true rfl) rfl dX10_tell_9 (fun r9 h9 p9 => ?_)
  obtain ⟨eh9, p9⟩ := p9
  have eh9 := eh9.symm; subst eh9
  have q9 := p9
  have q9r := q9.r
  refine g_if_ne k (tgt := 17) (by omega) dX10_tell_12 (by decide) (fun c12 => ?_) (fun c12 => ?_)
  · skip
    have hnd := q9.t (by omega)
    obtain ⟨k1, ek1⟩ : ∃ k1 : Nat, kx = k1 := ⟨kx.toNat, by have := hnd.1; omega⟩
    obtain ⟨x1, ex1, hx1⟩ := nat_of hnd.2.1.1
    obtain ⟨y1, ey1, hy1⟩ := nat_of hnd.2.1.2.1
    have hk1 : k1 ≤ 1 := by have := hnd.1; omega
    have hne : x1 ≠ y1 := by have := hnd.2.1.2.2; omega
    have hix : ix φ (x1 : Int) (y1 : Int) = -1 := by rw [← ex1, ← ey1]; exact hnd.2.2
    have hnd2 : nmd it φ (k1 : Int) (x1 : Int) (y1 : Int) := by rw [← ek1, ← ex1, ← ey1]; exact hnd
    rw [ek1, ex1, ey1]
    rw [ek1, ex1, ey1] at hQQ
    refine g_aload_n k rfl dX10_tell_17 ?_
    refine g_aload_n k rfl dX10_tell_18 ?_
    refine g_get k 10 10 (v := .ref (m + 2)) (C := RX10) (T := TX10) (N := 38) fl_X10_74 rfl wi_X10 (by decide) rfl hm_ rfl dX10_tell_19 ?_
    refine g_iload_n k rfl dX10_tell_22 ?_
    refine g_iload_n k rfl dX10_tell_23 ?_
    refine g_iload_n k rfl dX10_tell_24 ?_
    refine g_cVi k 10 (As := [.ref (m + 2), vi (k1 : Int), vi (x1 : Int), vi (y1 : Int)]) v_X10_isRefuted rfl rfl hm_ ml_X10_146 (c_X10_isRefuted hm_ hn_ hR hS (by omega) hb_ hr_ hG (k1 := k1) (x := x1) (y := y1) hk1 hx1 hy1 hne) (by omega) (by omega) rfl (Nat.le_of_ble_eq_true rfl) rfl dX10_tell_25 (fun r25 h25 p25 => ?_)
    obtain ⟨hz, ⟨sa, Ba, Ra, nm, nb, nr, hsa, hda⟩, nfr⟩ := p25
    have hm__1 : h25 m = some (mo m sa) := nm
    have hn__1 : h25 (m + 2) = some (ai G 86 N) := (nfr _ (by omega)).trans hn_
    have hb__1 : h25 (m + 12) = some (ai G 72 Ba) := nb
    have hr__1 : h25 (m + 13) = some (ai G 8 Ra) := nr
    have hv__1 : h25 (m + 14) = some (ai G 8 Q) := (nfr _ (by omega)).trans hv_
    have fr__1 : ∀ q : Nat, (q ≠ m ∧ q ≠ m + 2 ∧ q ≠ m + 5 ∧ q ≠ m + 12 ∧ q ≠ m + 13 ∧ q ≠ m + 14) → h25 q = h q := fun q hq => (nfr q (by omega)).trans (fr_ q hq)
    have hzr := hz.r
    have hfr5 : h25 (m + 5) = h (m + 5) := (nfr (m + 5) (by omega)).trans ((congrFun eh2 _).trans (hup_n (by omega)))
    refine g_if_eq k (tgt := 38) (by omega) dX10_tell_28 (by decide) (fun c28 => ?_) (fun c28 => ?_)
    · skip
      refine g_aload_n k rfl dX10_tell_38 ?_
      refine g_cVv k 10 (As := []) v_X10_snap rfl rfl hm__1 ml_X10_250 (c_X10_snap hm__1 hn__1 hR hS (by rw [hfr5]; exact cq5) hps ((hsa 9 (by omega)).trans z9)) (by omega) (by omega) rfl (Nat.le_of_ble_eq_true rfl) rfl dX10_tell_39 (fun h39 p39 => ?_)
      obtain ⟨⟨nm3, ns⟩, nfr3⟩ := p39
      have hm__2 : h39 m = some (mo m (fu sa 9 ((psh ps (it, φ)).length : Int))) := nm3
      have hn__2 : h39 (m + 2) = some (ai G 86 N) := (nfr3 _ (by omega)).trans hn__1
      have hb__2 : h39 (m + 12) = some (ai G 72 Ba) := (nfr3 _ (by omega)).trans hb__1
      have hr__2 : h39 (m + 13) = some (ai G 8 Ra) := (nfr3 _ (by omega)).trans hr__1
      have hv__2 : h39 (m + 14) = some (ai G 8 Q) := (nfr3 _ (by omega)).trans hv__1
      have fr__2 : ∀ q : Nat, (q ≠ m ∧ q ≠ m + 2 ∧ q ≠ m + 5 ∧ q ≠ m + 12 ∧ q ≠ m + 13 ∧ q ≠ m + 14) → h39 q = h q := fun q hq => (nfr3 q (by omega)).trans (fr__1 q hq)
      refine g_aload_n k rfl dX10_tell_42 ?_
      refine g_get k 10 10 (v := .ref (m + 2)) (C := RX10) (T := TX10) (N := 38) fl_X10_74 rfl wi_X10 (by decide) rfl hm__2 rfl dX10_tell_43 ?_
      refine g_iload_n k rfl dX10_tell_46 ?_
      refine g_iload_n k rfl dX10_tell_47 ?_
      refine g_iload_n k rfl dX10_tell_48 ?_
      refine g_cSv k (As := [.ref (m + 2), vi (k1 : Int), vi (x1 : Int), vi (y1 : Int)]) v_X10_tells ml_X10_153 (c_X10_tells hn__2 hR hS (len28 hS hx1 hy1 hne hix) (k1 := k1) (x := x1) (y := y1)) (by omega) (by omega) rfl (Nat.le_of_ble_eq_true rfl) rfl dX10_tell_49 (fun h49 p49 => ?_)
      obtain ⟨⟨N4, nn, hR4⟩, nfr4⟩ := p49
      have hm__3 : h49 m = some (mo m (fu sa 9 ((psh ps (it, φ)).length : Int))) := (nfr4 _ (by omega)).trans hm__2
      have hn__3 : h49 (m + 2) = some (ai G 86 N4) := nn
      have hb__3 : h49 (m + 12) = some (ai G 72 Ba) := (nfr4 _ (by omega)).trans hb__2
      have hr__3 : h49 (m + 13) = some (ai G 8 Ra) := (nfr4 _ (by omega)).trans hr__2
      have hv__3 : h49 (m + 14) = some (ai G 8 Q) := (nfr4 _ (by omega)).trans hv__2
      have fr__3 : ∀ q : Nat, (q ≠ m ∧ q ≠ m + 2 ∧ q ≠ m + 5 ∧ q ≠ m + 12 ∧ q ≠ m + 13 ∧ q ≠ m + 14) → h49 q = h q := fun q hq => (nfr4 q (by omega)).trans (fr__2 q hq)
      have hS4 := hS.add hk1 hx1 hy1 hne hix
      have el : ((φ ++ [(k1, x1, y1)]).length : Int) = (φ.length : Int) + 1 := by simp
      refine g_aload_n k rfl dX10_tell_52 ?_
      refine g_cVi k 10 (As := []) v_X10_facts rfl rfl hm__3 ml_X10_237 (c_X10_facts hm__3 hn__3 hR4 hS4) (by omega) (by omega) rfl (Nat.le_of_ble_eq_true rfl) rfl dX10_tell_53 (fun r53 h53 p53 => ?_)
      obtain ⟨eh53, p53⟩ := p53
      have eh53 := eh53.symm; subst eh53
      subst p53
      refine g_iconst k dX10_tell_56 ?_
      refine g_isub k dX10_tell_57 ?_
      rw [← hQQ]
      refine g_ireti k rfl dX10_tell_58 ?_
      have hnr := hz.f (by omega)
      have e : tlF it φ ps V (k1 : Int) (x1 : Int) (y1 : Int) = ((φ.length : Int), φ ++ [(k1, x1, y1)], psh ps (it, φ), V) := by unfold tlF; simp only [Int.toNat_natCast]; rw [if_pos hnd2, if_neg hnr]
      rw [e]
      exact ⟨(show _ = (φ.length : Int) by omega), ⟨_, ⟨hm__3, ((fr__3 (m + 1) (by omega)).trans cq1), ⟨N4, hn__3, hR4⟩, (by rw [fr__3 (m + 3) (by omega)]; exact cq3), (by rw [fr__3 (m + 4) (by omega)]; exact cq4), (by rw [nfr4 (m + 5) (by omega)]; exact ns), (by rw [fr__3 (m + 6) (by omega)]; exact cq6), (by rw [fr__3 (m + 7) (by omega)]; exact cq7), (by rw [fr__3 (m + 8) (by omega)]; exact cq8), (by rw [fr__3 (m + 9) (by omega)]; exact cq9), (by rw [fr__3 (m + 10) (by omega)]; exact cq10), (by rw [fr__3 (m + 11) (by omega)]; exact cq11), ⟨_, hb__3⟩, ⟨_, hr__3⟩, ⟨Q, hv__3, hq⟩, (by rw [fr__3 (m + 15) (by omega)]; exact cq15), (by rw [fr__3 (m + 16) (by omega)]; exact cq16), (by rw [fr__3 (m + 17) (by omega)]; exact cq17)⟩, ⟨(hsa 1 (by omega)).trans z1, (hsa 6 (by omega)).trans z6, rfl, (hsa 14 (by omega)).trans z14, (hsa 17 (by omega)).trans z17, (hsa 15 (by omega)).trans z15, (hsa 16 (by omega)).trans z16⟩, (hsa 0 (by omega))⟩, (fun q hq => fr__3 q (by omega))⟩
    · skip
      have hrf := hz.t (by omega)
      have hrv := hda hrf V
      refine g_aload_n k rfl dX10_tell_31 ?_
      refine g_cVv k 10 (As := []) v_X10_keepsRing rfl rfl hm__1 ml_X10_150 (c_X10_keepsRing hm__1 hr__1 hv__1 (n := (skN φ 0 it k1 x1 y1).1) (by have := (hda hrf V).1; have := skV_1 (V := V) hrf; omega) (by have := (skN_hit hx1 hy1 hrf).2.1; have := hS.1; omega)) (by omega) (by omega) rfl (Nat.le_of_ble_eq_true rfl) rfl dX10_tell_32 (fun h32 p32 => ?_)
      obtain ⟨⟨nm2, Q2, nv, hq2⟩, nfr2⟩ := p32
      have hm__4 : h32 m = some (mo m (fu (fu (fu (fu sa 14 (sa 10)) 15 (sa 11)) 16 (sa 12)) 17 (sa 13))) := nm2
      have hn__4 : h32 (m + 2) = some (ai G 86 N) := (nfr2 _ (by omega)).trans hn__1
      have hb__4 : h32 (m + 12) = some (ai G 72 Ba) := (nfr2 _ (by omega)).trans hb__1
      have hr__4 : h32 (m + 13) = some (ai G 8 Ra) := (nfr2 _ (by omega)).trans hr__1
      have hv__4 : h32 (m + 14) = some (ai G 8 Q2) := nv
      have fr__4 : ∀ q : Nat, (q ≠ m ∧ q ≠ m + 2 ∧ q ≠ m + 5 ∧ q ≠ m + 12 ∧ q ≠ m + 13 ∧ q ≠ m + 14) → h32 q = h q := fun q hq => (nfr2 q (by omega)).trans (fr__1 q hq)
      refine g_bipush k rfl dX10_tell_35 ?_
      rw [← hQQ]
      refine g_ireti k rfl dX10_tell_37 ?_
      have e : tlF it φ ps V (k1 : Int) (x1 : Int) (y1 : Int) = (-2, φ, ps, (skV φ 0 it k1 x1 y1 V)) := by unfold tlF; simp only [Int.toNat_natCast]; rw [if_pos hnd2, if_pos hrf]
      rw [e]
      dsimp only
      exact ⟨rfl, ⟨_, ⟨hm__4, ((fr__4 (m + 1) (by omega)).trans cq1), ⟨N, hn__4, hR⟩, (by rw [fr__4 (m + 3) (by omega)]; exact cq3), (by rw [fr__4 (m + 4) (by omega)]; exact cq4), (by rw [nfr2 (m + 5) (by omega), hfr5]; exact cq5), (by rw [fr__4 (m + 6) (by omega)]; exact cq6), (by rw [fr__4 (m + 7) (by omega)]; exact cq7), (by rw [fr__4 (m + 8) (by omega)]; exact cq8), (by rw [fr__4 (m + 9) (by omega)]; exact cq9), (by rw [fr__4 (m + 10) (by omega)]; exact cq10), (by rw [fr__4 (m + 11) (by omega)]; exact cq11), ⟨_, hb__4⟩, ⟨_, hr__4⟩, ⟨Q2, hv__4, fun i hi => (hq2 i (by have := skV_1 (V := V) hrf; omega)).trans (hrv.2.2.2.2 i hi)⟩, (by rw [fr__4 (m + 15) (by omega)]; exact cq15), (by rw [fr__4 (m + 16) (by omega)]; exact cq16), (by rw [fr__4 (m + 17) (by omega)]; exact cq17)⟩, ⟨(hsa 1 (by omega)).trans z1, (hsa 6 (by omega)).trans z6, (hsa 9 (by omega)).trans z9, (show sa 10 = _ by have := hrv.1; omega), hrv.2.1, hrv.2.2.1, hrv.2.2.2.1⟩, (hsa 0 (by omega))⟩, (fun q hq => fr__4 q (by omega))⟩
  · skip
    refine g_iconst k dX10_tell_15 ?_
    rw [← hQQ]
    refine g_ireti k rfl dX10_tell_16 ?_
    have e : tlF it φ ps V kx p p2 = (-1, φ, ps, V) := by unfold tlF; rw [if_neg (q9.f (by omega))]
    rw [e]
    exact ⟨rfl, ⟨_, ⟨hm_, ((fr_ (m + 1) (by omega)).trans cq1), ⟨N, hn_, hR⟩, (by rw [fr_ (m + 3) (by omega)]; exact cq3), (by rw [fr_ (m + 4) (by omega)]; exact cq4), (by rw [(congrFun eh2 _).trans (hup_n (by omega))]; exact cq5), (by rw [fr_ (m + 6) (by omega)]; exact cq6), (by rw [fr_ (m + 7) (by omega)]; exact cq7), (by rw [fr_ (m + 8) (by omega)]; exact cq8), (by rw [fr_ (m + 9) (by omega)]; exact cq9), (by rw [fr_ (m + 10) (by omega)]; exact cq10), (by rw [fr_ (m + 11) (by omega)]; exact cq11), ⟨_, hb_⟩, ⟨_, hr_⟩, ⟨Q, hv_, hq⟩, (by rw [fr_ (m + 15) (by omega)]; exact cq15), (by rw [fr_ (m + 16) (by omega)]; exact cq16), (by rw [fr_ (m + 17) (by omega)]; exact cq17)⟩, hsc, rfl⟩, (fun q hq => fr_ q (by omega))⟩

