/-! the reference: draws, finish -/
theorem fso_gd {E : Nat → Nat → Nat → Prop} {it a b : Nat} {M : Nat → Int} (h : GMx E it M) (ha : a < it) (hb : b < it) (hne : a ≠ b) : Gd (Ea2 E (fso (opt M a b) a b).1 (fso (opt M a b) a b).2.1 (fso (opt M a b) a b).2.2) := by
  obtain ⟨o1, o2, o3⟩ := opt_bits h ha hb
  unfold fso
  by_cases e1 : opt M a b % 2 = 1
  · rw [if_pos e1]; exact o1.mp e1
  · rw [if_neg e1]
    by_cases e2 : opt M a b / 2 % 2 = 1
    · rw [if_pos e2]; exact o2.mp e2
    · rw [if_neg e2]
      show Gd (Ea2 E 1 a b)
      have hG := h.2.1
      have p1 : Ps E b a (-1) := Classical.byContradiction (fun q => e1 (o1.mpr ((Gd2_0 hG).mpr q)))
      have p2 : Ps E a b (-1) := Classical.byContradiction (fun q => e2 (o2.mpr ((Gd2_0 hG).mpr q)))
      have key : ∀ u v, u ≠ v → Ps E u v (-1) → ¬ Ps E v u 1 := by
        rintro u v huv ⟨n1, c1, w1, v1⟩ ⟨n2, c2, w2, v2⟩
        have hn : 1 ≤ n1 + n2 := by
          cases n1 with
          | zero => exact absurd w1.1 huv
          | succ n1 => omega
        have := hG _ _ _ hn (wk_app w1 w2)
        rw [wv11] at v1 v2
        omega
      exact (Gd2_1 hG).mpr ⟨key b a (Ne.symm hne) p1, key a b hne p2⟩
def FMq (it : Nat) (ψ : Fs) (M : Nat → Int) : Prop := Sm it ψ ∧ GMx (EF ψ 0) it M
theorem FMq.good {it : Nat} {ψ : Fs} {M : Nat → Int} (h : FMq it ψ M) : Good ψ := h.2.2.1
theorem FMq.o (it : Nat) : FMo it (FMq it) := by
  refine ⟨fun ψ M h => ⟨h.2.bd, h.1⟩, fun ψ M a b h hab hb hix => ?_⟩
  have hg := fso_gd h.2 (show a < it by omega) hb (by omega)
  obtain ⟨f1, f2⟩ := fso_b (opt M a b) a b
  have f3 : (fso (opt M a b) a b).2.1 < it ∧ (fso (opt M a b) a b).2.2 < it ∧ (fso (opt M a b) a b).2.1 ≠ (fso (opt M a b) a b).2.2 ∧ ix ψ ((fso (opt M a b) a b).2.1 : Int) ((fso (opt M a b) a b).2.2 : Int) = -1 := by
    rcases f2 with e | e
    · rw [e]; exact ⟨by dsimp only; omega, hb, by dsimp only; omega, hix⟩
    · rw [e]; exact ⟨hb, by dsimp only; omega, by dsimp only; omega, by rw [ix_sym]; exact hix⟩
  generalize fso (opt M a b) a b = f at *
  obtain ⟨k, x, y⟩ := f
  exact ⟨h.1.add f1 f3.1 f3.2.1 f3.2.2.1 f3.2.2.2, (h.2.jn f1 f3.1 f3.2.1 hg).ext (fun k2 u v => (EF_app f1 k2 u v).symm)⟩
theorem FMq.w {it : Nat} {φ : Fs} (hS : Sm it φ) (hG : Good φ) : FMq it φ (wgh φ 0 it) := ⟨hS, wgh_g hS hG⟩
theorem fso_1 {it a b : Nat} {ψ : Fs} {M : Nat → Int} (h : FMq it ψ M) (ha : a < it) (hb : b < it) (g : Good (ψ ++ [(0, a, b)])) : fso (opt M a b) a b = (0, a, b) := by
  unfold fso
  rw [if_pos ((opt_bits h.2 ha hb).1.mpr ((Good_app (by decide)).mp g))]
theorem fso_2 {it a b : Nat} {ψ : Fs} {M : Nat → Int} (h : FMq it ψ M) (ha : a < it) (hb : b < it) (g : ¬ Good (ψ ++ [(0, a, b)])) (g2 : Good (ψ ++ [(0, b, a)])) : fso (opt M a b) a b = (0, b, a) := by
  unfold fso
  rw [if_neg (fun q => g ((Good_app (by decide)).mpr ((opt_bits h.2 ha hb).1.mp q))), if_pos ((opt_bits h.2 ha hb).2.1.mpr ((Good_app (by decide)).mp g2))]
theorem fso_3 {it a b : Nat} {ψ : Fs} {M : Nat → Int} (h : FMq it ψ M) (ha : a < it) (hb : b < it) (g : ¬ Good (ψ ++ [(0, a, b)])) (g2 : ¬ Good (ψ ++ [(0, b, a)])) : fso (opt M a b) a b = (1, a, b) := by
  unfold fso
  rw [if_neg (fun q => g ((Good_app (by decide)).mpr ((opt_bits h.2 ha hb).1.mp q))), if_neg (fun q => g2 ((Good_app (by decide)).mpr ((opt_bits h.2 ha hb).2.1.mp q)))]
theorem dt_good {it : Nat} {φ : Fs} (hS : Sm it φ) (hG : Good φ) {k x y : Nat} (hk : k ≤ 1) (hx : x < it) (hy : y < it) : opt (wgh φ 0 it) x y / (if (k : Int) = 0 then 1 else 4) % 2 = 0 ↔ ¬ Good (φ ++ [(k, x, y)]) := by
  obtain ⟨o1, -, o3⟩ := opt_bits (wgh_g (w := 0) hS hG) hx hy
  rw [Good_app hk]
  rcases (show k = 0 ∨ k = 1 by omega) with rfl | rfl
  · rw [if_pos (by decide), Nat.div_one, ← o1]; omega
  · rw [if_neg (by decide), ← o3]; omega
theorem Good_dg {φ : Fs} (h : Good φ) (sd : Int) : Good (dgF φ sd).2.1 := by
  unfold dgF
  by_cases e : φ.length = 0
  · rw [if_pos e]; exact h
  · rw [if_neg e]
    have := drZ_b (sdN sd) (n := φ.length) (by omega)
    exact Good_fgt (by omega) h
theorem Good_dt {it : Nat} {φ : Fs} (hS : Sm it φ) (h : Good φ) (sd : Int) : Good (dtF it φ sd).2.1 := by
  unfold dtF
  by_cases e : it < 2
  · rw [if_pos e]; exact h
  · rw [if_neg e]
    by_cases e2 : nmd it φ (drZ (sdN (sdN (sdN sd))) 2) (drZ (sdN sd) it) (dtB it sd)
    · rw [if_pos e2]
      obtain ⟨x1, ex1, hx1⟩ := nat_of e2.2.1.1
      obtain ⟨y1, ey1, hy1⟩ := nat_of e2.2.1.2.1
      obtain ⟨k1, ek1⟩ : ∃ k1 : Nat, drZ (sdN (sdN (sdN sd))) 2 = k1 := ⟨(drZ (sdN (sdN (sdN sd))) 2).toNat, by have := e2.1; omega⟩
      rw [ex1, ey1, ek1, Int.toNat_natCast, Int.toNat_natCast, Int.toNat_natCast]
      have hk1 : k1 ≤ 1 := by have := e2.1; omega
      by_cases g : opt (wgh φ 0 it) x1 y1 / (if (k1 : Int) = 0 then 1 else 4) % 2 = 0
      · rw [if_pos g]; exact h
      · rw [if_neg g]
        exact Classical.byContradiction (fun q => g ((dt_good hS h hk1 hx1 hy1).mpr q))
    · rw [if_neg e2]; exact h
theorem Good_dd {it : Nat} {φ : Fs} (hS : Sm it φ) (h : Good φ) (sd : Int) : Good (ddF it φ sd).2.1 := by
  unfold ddF
  split
  · exact Good_dg h _
  · exact Good_dt hS h _
theorem Good_ddN {it : Nat} {φ : Fs} (hS : Sm it φ) (h : Good φ) (sd : Int) : ∀ n, Good (ddN it φ sd n).2.1
  | 0 => h
  | n + 1 => Good_dd (Sm_ddN hS sd n) (Good_ddN hS h sd n) _
theorem fn_FM {it : Nat} {φ : Fs} (hS : Sm it φ) (hG : Good φ) : FMq it (fnT it φ).1 (fnT it φ).2.1 := by
  have k1 : ∀ a b (s : FnS), a < b → b < it → FMq it s.1 s.2.1 → FMq it (fn1 it a b s).1 (fn1 it a b s).2.1 := by
    intro a b s hab hb h
    unfold fn1
    split
    · rename_i e; exact (FMq.o it).2 _ _ a b h hab hb e
    · exact h
  have k2 : ∀ a (s : FnS) m, a + m < it → FMq it s.1 s.2.1 → FMq it (fnI it a s m).1 (fnI it a s m).2.1 := by
    intro a s m
    induction m with
    | zero => intro _ h; exact h
    | succ m ih => intro hm h; exact k1 a (a + 1 + m) _ (by omega) (by omega) (ih (by omega) h)
  have k3 : ∀ a, a ≤ it → FMq it (fnO it (φ, wgh φ 0 it, 0) a).1 (fnO it (φ, wgh φ 0 it, 0) a).2.1 := by
    intro a
    induction a with
    | zero => intro _; exact FMq.w hS hG
    | succ a ih => intro ha; exact k2 a _ _ (by omega) (ih (by omega))
  exact k3 it (Nat.le_refl it)
set_option maxHeartbeats 600000 in
set_option maxRecDepth 100000 in
theorem c_X10_draw {G : Gx} {h : Hp} {nx : Nat} {m : Nat} {s : Nat → Int} (hm : h m = some (mo m s)) {sd : Int} (hsd : s 20 = sd) {n : Nat} (hn1 : 1 ≤ n ∧ n < 2147483648) : Con G yX10_draw cX10_draw 2 (some .int) 1 0 0 [.ref m, vi (n : Int)] h nx (PI fun z h' => z = drZ (sdN sd) n ∧ h' m = some (mo m (fu s 20 (sdN sd))) ∧ ∀ q : Nat, q ≠ m → h' q = h q) := by
  refine Con.of v_X10_draw.2.2.2.2.2.1 (Nat.le_of_ble_eq_true rfl) (lv := [(0, .ref m), (1, vi (n : Int))]) rfl (fun X k => ?_)
  generalize hQQ : QM G X nx 0 0 _ = QQ
  have fr0 : ∀ q : Nat, q ≠ m → h q = h q := fun _ _ => rfl
  refine g_aload_n k rfl dX10_draw_0 ?_
  refine g_aload_n k rfl dX10_draw_1 ?_
  refine g_get k 10 37 (C := RX10) (T := TX10) (N := 38) fl_X10_326 rfl wi_X10 (by decide) rfl hm rfl dX10_draw_2 ?_
  refine g_ldcw k (z := 1103515245) cn_X10_329 rfl dX10_draw_5 ?_
  refine g_imul k dX10_draw_8 ?_
  refine g_sipush k rfl dX10_draw_9 ?_
  refine g_iadd k dX10_draw_12 ?_
  rw [show ((s 20) * 1103515245) + 12345 = sdN sd from (by rw [hsd]; rfl)]
  refine g_put k 10 37 (C := RX10) (T := TX10) (N := 38) fl_X10_326 rfl wi_X10 tyX10 tyX10_ok nmX10 (by decide) rfl rfl rfl rfl hm (Nat.le_of_ble_eq_true rfl) (fs2 := mol m (fu s 20 (sdN sd))) rfl rfl dX10_draw_13 (fun h13 eh13 => ?_)
  have hm_ : h13 m = some (mo m (fu s 20 (sdN sd))) := (congrFun eh13 _).trans hup_s
  have fr_ : ∀ q : Nat, q ≠ m → h13 q = h q := fun q hq => (congrFun eh13 q).trans ((hup_n (by omega)).trans (fr0 q hq))
  have hsr : 0 ≤ sdN sd % 4294967296 ∧ sdN sd % 4294967296 < 4294967296 := ⟨Int.emod_nonneg _ (by omega), Int.emod_lt_of_pos _ (by omega)⟩
  refine g_aload_n k rfl dX10_draw_16 ?_
  refine g_get k 10 37 (v := vi (sdN sd)) (C := RX10) (T := TX10) (N := 38) fl_X10_326 rfl wi_X10 (by decide) rfl hm_ rfl dX10_draw_17 ?_
  refine g_bipush k rfl dX10_draw_20 ?_
  refine g_iushr k (by omega) dX10_draw_22 ?_
  rw [show (sdN sd) % 4294967296 / 2 ^ (8 : Int).toNat = sdN sd % 4294967296 / 256 from rfl]
  refine g_iload_n k rfl dX10_draw_23 ?_
  refine g_irem k (by omega) (by omega) dX10_draw_24 ?_
  rw [← hQQ]
  refine g_ireti k rfl dX10_draw_25 ?_
  exact ⟨by unfold drZ; rw [if_neg (by omega)], hm_, fr_⟩

set_option maxHeartbeats 1600000 in
set_option maxRecDepth 100000 in
theorem c_X10_does {G : Gx} {h : Hp} {nx : Nat} {m : Nat} {s : Nat → Int} (hm : h m = some (mo m s)) {N : Nat → Int} {it : Nat} {φ : Fs} (hn : h (m + 2) = some (ai G 86 N)) (hR : Rw N it φ) (hS : Sm it φ) {S : Nat → Int} (hu : h (m + 11) = some (ai G 64 S)) {sd : Int} (hsd : s 20 = sd) (hG : Good φ) : Con G yX10_does cX10_does 4 (some .boolean) 6 0 0 [.ref m] h nx (PI fun z h' => bz (ddF it φ sd).1 z ∧ (h' m = some (mo m (fu s 20 (ddF it φ sd).2.2)) ∧ aN G it (ddF it φ sd).2.1 (h' (m + 2)) ∧ aI G 64 (h' (m + 11))) ∧ ∀ q : Nat, (q ≠ m ∧ q ≠ m + 2 ∧ q ≠ m + 11) → h' q = h q) := by
  obtain ⟨h8, h28, hsm⟩ := id hS
  have hd8 := drZ_b (sdN sd) (n := 8) (by decide)
  refine Con.of v_X10_does.2.2.2.2.2.1 (Nat.le_of_ble_eq_true rfl) (lv := [(0, .ref m)]) rfl (fun X k => ?_)
  generalize hQQ : QM G X nx 0 0 _ = QQ
  have fr0 : ∀ q : Nat, (q ≠ m ∧ q ≠ m + 2 ∧ q ≠ m + 11) → h q = h q := fun _ _ => rfl
  refine g_aload_n k rfl dX10_does_0 ?_
  refine g_bipush k rfl dX10_does_1 ?_
  refine g_cVi k 10 (As := [vi 8]) v_X10_draw rfl rfl hm ml_X10_330 (c_X10_draw hm (sd := sd) hsd (n := 8) (by omega)) (by omega) (by omega) rfl (Nat.le_of_ble_eq_true rfl) rfl dX10_does_3 (fun r3 h3 p3 => ?_)
  obtain ⟨p3e, nm1, nfr1⟩ := p3
  subst p3e
  have hm_ : h3 m = some (mo m (fu s 20 (sdN sd))) := nm1
  have hn_ : h3 (m + 2) = some (ai G 86 N) := (nfr1 _ (by omega)).trans hn
  have hu_ : h3 (m + 11) = some (ai G 64 S) := (nfr1 _ (by omega)).trans hu
  have fr_ : ∀ q : Nat, (q ≠ m ∧ q ≠ m + 2 ∧ q ≠ m + 11) → h3 q = h q := fun q hq => (nfr1 q (by omega)).trans (fr0 q hq)
  refine g_if_ne k (tgt := 35) (by omega) dX10_does_6 (by decide) (fun c6 => ?_) (fun c6 => ?_)
  · skip
    refine g_aload_n k rfl dX10_does_35 ?_
    refine g_cVi k 10 (As := []) v_X10_items rfl rfl hm_ ml_X10_228 (c_X10_items hm_ hn_ hR hS) (by omega) (by omega) rfl (Nat.le_of_ble_eq_true rfl) rfl dX10_does_36 (fun r36 h36 p36 => ?_)
    obtain ⟨eh36, p36⟩ := p36
    have eh36 := eh36.symm; subst eh36
    subst p36
    refine g_iconst k dX10_does_39 ?_
    refine g_icmp_ge k (tgt := 45) (by omega) (by omega) dX10_does_40 (by decide) (fun c40 => ?_) (fun c40 => ?_)
    · skip
      have hda := drZ_b (sdN (sdN sd)) (n := it) (by omega)
      have hdb := drZ_b (sdN (sdN (sdN sd))) (n := it - 1) (by omega)
      have hdk := drZ_b (sdN (sdN (sdN (sdN sd)))) (n := 2) (by decide)
      have hib := @ix_b φ (drZ (sdN (sdN sd)) it) (dtB it (sdN sd))
      have hdB : (drZ (sdN (sdN sd)) it ≤ drZ (sdN (sdN (sdN sd))) (it - 1) ∧ dtB it (sdN sd) = drZ (sdN (sdN (sdN sd))) (it - 1) + 1) ∨ (drZ (sdN (sdN (sdN sd))) (it - 1) < drZ (sdN (sdN sd)) it ∧ dtB it (sdN sd) = drZ (sdN (sdN (sdN sd))) (it - 1)) := by unfold dtB; split <;> omega
      refine g_aload_n k rfl dX10_does_45 ?_
      refine g_aload_n k rfl dX10_does_46 ?_
      refine g_cVi k 10 (As := []) v_X10_items rfl rfl hm_ ml_X10_228 (c_X10_items hm_ hn_ hR hS) (by omega) (by omega) rfl (Nat.le_of_ble_eq_true rfl) rfl dX10_does_47 (fun r47 h47 p47 => ?_)
      obtain ⟨eh47, p47⟩ := p47
      have eh47 := eh47.symm; subst eh47
      subst p47
      refine g_cVi k 10 (As := [vi (it : Int)]) v_X10_draw rfl rfl hm_ ml_X10_330 (c_X10_draw hm_ (sd := sdN sd) rfl (n := it) (by omega)) (by omega) (by omega) rfl (Nat.le_of_ble_eq_true rfl) rfl dX10_does_50 (fun r50 h50 p50 => ?_)
      obtain ⟨p50e, nm3, nfr3⟩ := p50
      subst p50e
      have hm__1 : h50 m = some (mo m (fu s 20 (sdN (sdN sd)))) := (by rw [nm3, fu_fu])
      have hn__1 : h50 (m + 2) = some (ai G 86 N) := (nfr3 _ (by omega)).trans hn_
      have hu__1 : h50 (m + 11) = some (ai G 64 S) := (nfr3 _ (by omega)).trans hu_
      have fr__1 : ∀ q : Nat, (q ≠ m ∧ q ≠ m + 2 ∧ q ≠ m + 11) → h50 q = h q := fun q hq => (nfr3 q (by omega)).trans (fr_ q hq)
      refine g_istore_n k (lv2 := [(0, .ref m), (1, vi (drZ (sdN (sdN sd)) it))]) (by decide) rfl rfl dX10_does_53 ?_
      refine g_aload_n k rfl dX10_does_54 ?_
      refine g_aload_n k rfl dX10_does_55 ?_
      refine g_cVi k 10 (As := []) v_X10_items rfl rfl hm__1 ml_X10_228 (c_X10_items hm__1 hn__1 hR hS) (by omega) (by omega) rfl (Nat.le_of_ble_eq_true rfl) rfl dX10_does_56 (fun r56 h56 p56 => ?_)
      obtain ⟨eh56, p56⟩ := p56
      have eh56 := eh56.symm; subst eh56
      subst p56
      refine g_iconst k dX10_does_59 ?_
      refine g_isub k dX10_does_60 ?_
      rw [show (it : Int) - 1 = ((it - 1 : Nat) : Int) from (by omega)]
      refine g_cVi k 10 (As := [vi ((it - 1 : Nat) : Int)]) v_X10_draw rfl rfl hm__1 ml_X10_330 (c_X10_draw hm__1 (sd := sdN (sdN sd)) rfl (n := it - 1) (by omega)) (by omega) (by omega) rfl (Nat.le_of_ble_eq_true rfl) rfl dX10_does_61 (fun r61 h61 p61 => ?_)
      obtain ⟨p61e, nm4, nfr4⟩ := p61
      subst p61e
      have hm__2 : h61 m = some (mo m (fu s 20 (sdN (sdN (sdN sd))))) := (by rw [nm4, fu_fu])
      have hn__2 : h61 (m + 2) = some (ai G 86 N) := (nfr4 _ (by omega)).trans hn__1
      have hu__2 : h61 (m + 11) = some (ai G 64 S) := (nfr4 _ (by omega)).trans hu__1
      have fr__2 : ∀ q : Nat, (q ≠ m ∧ q ≠ m + 2 ∧ q ≠ m + 11) → h61 q = h q := fun q hq => (nfr4 q (by omega)).trans (fr__1 q hq)
      refine g_istore_n k (lv2 := [(0, .ref m), (1, vi (drZ (sdN (sdN sd)) it)), (2, vi (drZ (sdN (sdN (sdN sd))) (it - 1)))]) (by decide) rfl rfl dX10_does_64 ?_
      have K73 : Go G X 4 QQ 0 0 nx 73 [(0, .ref m), (1, vi (drZ (sdN (sdN sd)) it)), (2, vi (dtB it (sdN sd)))] [] h61 := by
        refine g_aload_n k rfl dX10_does_73 ?_
        refine g_iconst k dX10_does_74 ?_
        refine g_cVi k 10 (As := [vi 2]) v_X10_draw rfl rfl hm__2 ml_X10_330 (c_X10_draw hm__2 (sd := sdN (sdN (sdN sd))) rfl (n := 2) (by omega)) (by omega) (by omega) rfl (Nat.le_of_ble_eq_true rfl) rfl dX10_does_75 (fun r75 h75 p75 => ?_)
        obtain ⟨p75e, nm5, nfr5⟩ := p75
        subst p75e
        have hm__3 : h75 m = some (mo m (fu s 20 (sdN (sdN (sdN (sdN sd)))))) := (by rw [nm5, fu_fu])
        have hn__3 : h75 (m + 2) = some (ai G 86 N) := (nfr5 _ (by omega)).trans hn__2
        have hu__3 : h75 (m + 11) = some (ai G 64 S) := (nfr5 _ (by omega)).trans hu__2
        have fr__3 : ∀ q : Nat, (q ≠ m ∧ q ≠ m + 2 ∧ q ≠ m + 11) → h75 q = h q := fun q hq => (nfr5 q (by omega)).trans (fr__2 q hq)
        refine g_istore_n k (lv2 := [(0, .ref m), (1, vi (drZ (sdN (sdN sd)) it)), (2, vi (dtB it (sdN sd))), (3, vi (drZ (sdN (sdN (sdN (sdN sd)))) 2))]) (by decide) rfl rfl dX10_does_78 ?_
        refine g_aload_n k rfl dX10_does_79 ?_
        refine g_get k 10 10 (v := .ref (m + 2)) (C := RX10) (T := TX10) (N := 38) fl_X10_74 rfl wi_X10 (by decide) rfl hm__3 rfl dX10_does_80 ?_
        refine g_iload_n k rfl dX10_does_83 ?_
        refine g_iload_n k rfl dX10_does_84 ?_
        refine g_cSi k (As := [.ref (m + 2), vi (drZ (sdN (sdN sd)) it), vi (dtB it (sdN sd))]) v_X10_factOf ml_X10_142 (c_X10_factOf hn__3 hR hS (p := drZ (sdN (sdN sd)) it) (p2 := dtB it (sdN sd)) (by omega) (by omega)) (by omega) (by omega) rfl (Nat.le_of_ble_eq_true rfl) rfl dX10_does_85 (fun r85 h85 p85 => ?_)
        obtain ⟨eh85, p85⟩ := p85
        have eh85 := eh85.symm; subst eh85
        subst p85
        refine g_iconst k dX10_does_88 ?_
        refine g_icmp_ne k (tgt := 106) (by omega) (by omega) dX10_does_89 (by decide) (fun c89 => ?_) (fun c89 => ?_)
        · skip
          refine g_iconst k dX10_does_106 ?_
          rw [← hQQ]
          refine g_zreti k (by omega) rfl dX10_does_107 ?_
          have e0 : ddF it φ sd = dtF it φ (sdN sd) := by unfold ddF; rw [if_neg (by omega)]
          have e : dtF it φ (sdN sd) = (False, φ, sdN (sdN (sdN (sdN sd)))) := by unfold dtF; rw [if_neg (by omega), if_neg (fun q => c89 q.2.2)]
          rw [e0, e]
          exact ⟨bz.n id, ⟨hm__3, ⟨N, hn__3, hR⟩, ⟨_, hu__3⟩⟩, fr__3⟩
        · skip
          obtain ⟨x1, ex1⟩ : ∃ x1 : Nat, drZ (sdN (sdN sd)) it = x1 := ⟨(drZ (sdN (sdN sd)) it).toNat, by omega⟩
          obtain ⟨y1, ey1⟩ : ∃ y1 : Nat, dtB it (sdN sd) = y1 := ⟨(dtB it (sdN sd)).toNat, by omega⟩
          obtain ⟨k1, ek1⟩ : ∃ k1 : Nat, drZ (sdN (sdN (sdN (sdN sd)))) 2 = k1 := ⟨(drZ (sdN (sdN (sdN (sdN sd)))) 2).toNat, by omega⟩
          have hk1 : k1 ≤ 1 := by omega
          have hx1 : x1 < it := by omega
          have hy1 : y1 < it := by omega
          have hne : x1 ≠ y1 := by omega
          have hix : ix φ (x1 : Int) (y1 : Int) = -1 := by rw [← ex1, ← ey1]; exact c89
          have hnm : nmd it φ (drZ (sdN (sdN (sdN (sdN sd)))) 2) (drZ (sdN (sdN sd)) it) (dtB it (sdN sd)) := ⟨by omega, ⟨by rw [ex1]; unfold hasI; omega, by rw [ey1]; unfold hasI; omega, by omega⟩, c89⟩
          rw [ex1, ey1, ek1]
          refine g_aload_n k rfl dX10_does_92 ?_
          refine g_aload_n k rfl dX10_does_93 ?_
          refine g_get k 10 10 (v := .ref (m + 2)) (C := RX10) (T := TX10) (N := 38) fl_X10_74 rfl wi_X10 (by decide) rfl hm__3 rfl dX10_does_94 ?_
          refine g_iload_n k rfl dX10_does_97 ?_
          refine g_iload_n k rfl dX10_does_98 ?_
          refine g_iload_n k rfl dX10_does_99 ?_
          refine g_cVi k 10 (As := [.ref (m + 2), vi (k1 : Int), vi (x1 : Int), vi (y1 : Int)]) v_X10_isGoodWith rfl rfl hm__3 ml_X10_270 (c_X10_isGoodWith hm__3 hn__3 hR hS (by omega) hu__3 (k1 := k1) (x := x1) (y := y1) hk1 hx1 hy1 hne hix) (by omega) (by omega) rfl (Nat.le_of_ble_eq_true rfl) rfl dX10_does_100 (fun r100 h100 p100 => ?_)
          obtain ⟨hz, ⟨N6, nn6, hR6⟩, ⟨S6, nu6⟩, nfr6⟩ := p100
          have hm__4 : h100 m = some (mo m (fu s 20 (sdN (sdN (sdN (sdN sd)))))) := (nfr6 _ (by omega)).trans hm__3
          have hn__4 : h100 (m + 2) = some (ai G 86 N6) := nn6
          have hu__4 : h100 (m + 11) = some (ai G 64 S6) := nu6
          have fr__4 : ∀ q : Nat, (q ≠ m ∧ q ≠ m + 2 ∧ q ≠ m + 11) → h100 q = h q := fun q hq => (nfr6 q (by omega)).trans (fr__3 q hq)
          have hzr := hz.r
          refine g_if_ne k (tgt := 108) (by omega) dX10_does_103 (by decide) (fun c103 => ?_) (fun c103 => ?_)
          · skip
            refine g_aload_n k rfl dX10_does_108 ?_
            refine g_get k 10 10 (v := .ref (m + 2)) (C := RX10) (T := TX10) (N := 38) fl_X10_74 rfl wi_X10 (by decide) rfl hm__4 rfl dX10_does_109 ?_
            refine g_iload_n k rfl dX10_does_112 ?_
            refine g_iload_n k rfl dX10_does_113 ?_
            refine g_iload_n k rfl dX10_does_114 ?_
            refine g_cSv k (As := [.ref (m + 2), vi (k1 : Int), vi (x1 : Int), vi (y1 : Int)]) v_X10_tells ml_X10_153 (c_X10_tells hn__4 hR6 hS (len28 hS hx1 hy1 hne hix) (k1 := k1) (x := x1) (y := y1)) (by omega) (by omega) rfl (Nat.le_of_ble_eq_true rfl) rfl dX10_does_115 (fun h115 p115 => ?_)
            obtain ⟨⟨N7, nn7, hR7⟩, nfr7⟩ := p115
            have hm__5 : h115 m = some (mo m (fu s 20 (sdN (sdN (sdN (sdN sd)))))) := (nfr7 _ (by omega)).trans hm__4
            have hn__5 : h115 (m + 2) = some (ai G 86 N7) := nn7
            have hu__5 : h115 (m + 11) = some (ai G 64 S6) := (nfr7 _ (by omega)).trans hu__4
            have fr__5 : ∀ q : Nat, (q ≠ m ∧ q ≠ m + 2 ∧ q ≠ m + 11) → h115 q = h q := fun q hq => (nfr7 q (by omega)).trans (fr__4 q hq)
            refine g_iconst k dX10_does_118 ?_
            rw [← hQQ]
            refine g_zreti k (by omega) rfl dX10_does_119 ?_
            have e0 : ddF it φ sd = dtF it φ (sdN sd) := by unfold ddF; rw [if_neg (by omega)]
            have e : dtF it φ (sdN sd) = (True, φ ++ [(k1, x1, y1)], sdN (sdN (sdN (sdN sd)))) := by unfold dtF; rw [if_neg (by omega), if_pos hnm, ex1, ey1, ek1, Int.toNat_natCast, Int.toNat_natCast, Int.toNat_natCast, if_neg (fun q => (dt_good hS hG hk1 hx1 hy1).mp q (hz.t (by omega)))]
            rw [e0, e]
            exact ⟨bz.y trivial, ⟨hm__5, ⟨N7, hn__5, hR7⟩, ⟨_, hu__5⟩⟩, fr__5⟩
          · skip
            refine g_iconst k dX10_does_106 ?_
            rw [← hQQ]
            refine g_zreti k (by omega) rfl dX10_does_107 ?_
            have e0 : ddF it φ sd = dtF it φ (sdN sd) := by unfold ddF; rw [if_neg (by omega)]
            have e : dtF it φ (sdN sd) = (False, φ, sdN (sdN (sdN (sdN sd)))) := by unfold dtF; rw [if_neg (by omega), if_pos hnm, ex1, ey1, ek1, Int.toNat_natCast, Int.toNat_natCast, if_pos ((dt_good hS hG hk1 hx1 hy1).mpr (hz.f (by omega)))]
            rw [e0, e]
            exact ⟨bz.n id, ⟨hm__4, ⟨N6, hn__4, hR6⟩, ⟨_, hu__4⟩⟩, fr__4⟩
      refine g_iload_n k rfl dX10_does_65 ?_
      refine g_iload_n k rfl dX10_does_66 ?_
      refine g_icmp_lt k (tgt := 73) (by omega) (by omega) dX10_does_67 (by decide) (fun c67 => ?_) (fun c67 => ?_)
      · skip
        refine g_less (lv2 := [(0, .ref m), (1, vi (drZ (sdN (sdN sd)) it)), (2, vi (dtB it (sdN sd)))]) ⟨rfl, rfl, (by rw [show dtB it (sdN sd) = drZ (sdN (sdN (sdN sd))) (it - 1) by omega]; rfl), trivial⟩ ?_
        exact K73 
      · skip
        refine g_iinc k (lv2 := [(0, .ref m), (1, vi (drZ (sdN (sdN sd)) it)), (2, vi ((drZ (sdN (sdN (sdN sd))) (it - 1)) + 1))]) rfl (by decide) rfl rfl dX10_does_70 ?_
        refine g_less (lv2 := [(0, .ref m), (1, vi (drZ (sdN (sdN sd)) it)), (2, vi (dtB it (sdN sd)))]) ⟨rfl, rfl, (by rw [show dtB it (sdN sd) = drZ (sdN (sdN (sdN sd))) (it - 1) + 1 by omega]; rfl), trivial⟩ ?_
        exact K73 
    · skip
      refine g_iconst k dX10_does_43 ?_
      rw [← hQQ]
      refine g_zreti k (by omega) rfl dX10_does_44 ?_
      have e0 : ddF it φ sd = dtF it φ (sdN sd) := by unfold ddF; rw [if_neg (by omega)]
      have e : dtF it φ (sdN sd) = (False, φ, sdN sd) := by unfold dtF; rw [if_pos (by omega)]
      rw [e0, e]
      exact ⟨bz.n id, ⟨hm_, ⟨N, hn_, hR⟩, ⟨_, hu_⟩⟩, fr_⟩
  · skip
    refine g_aload_n k rfl dX10_does_9 ?_
    refine g_cVi k 10 (As := []) v_X10_facts rfl rfl hm_ ml_X10_237 (c_X10_facts hm_ hn_ hR hS) (by omega) (by omega) rfl (Nat.le_of_ble_eq_true rfl) rfl dX10_does_10 (fun r10 h10 p10 => ?_)
    obtain ⟨eh10, p10⟩ := p10
    have eh10 := eh10.symm; subst eh10
    subst p10
    refine g_if_ne k (tgt := 18) (by omega) dX10_does_13 (by decide) (fun c13 => ?_) (fun c13 => ?_)
    · skip
      refine g_aload_n k rfl dX10_does_18 ?_
      refine g_get k 10 10 (v := .ref (m + 2)) (C := RX10) (T := TX10) (N := 38) fl_X10_74 rfl wi_X10 (by decide) rfl hm_ rfl dX10_does_19 ?_
      refine g_aload_n k rfl dX10_does_22 ?_
      refine g_aload_n k rfl dX10_does_23 ?_
      refine g_cVi k 10 (As := []) v_X10_facts rfl rfl hm_ ml_X10_237 (c_X10_facts hm_ hn_ hR hS) (by omega) (by omega) rfl (Nat.le_of_ble_eq_true rfl) rfl dX10_does_24 (fun r24 h24 p24 => ?_)
      obtain ⟨eh24, p24⟩ := p24
      have eh24 := eh24.symm; subst eh24
      subst p24
      refine g_cVi k 10 (As := [vi (φ.length : Int)]) v_X10_draw rfl rfl hm_ ml_X10_330 (c_X10_draw hm_ (sd := sdN sd) rfl (n := φ.length) (by omega)) (by omega) (by omega) rfl (Nat.le_of_ble_eq_true rfl) rfl dX10_does_27 (fun r27 h27 p27 => ?_)
      obtain ⟨p27e, nm2, nfr2⟩ := p27
      subst p27e
      have hm__6 : h27 m = some (mo m (fu s 20 (sdN (sdN sd)))) := (by rw [nm2, fu_fu])
      have hn__6 : h27 (m + 2) = some (ai G 86 N) := (nfr2 _ (by omega)).trans hn_
      have hu__6 : h27 (m + 11) = some (ai G 64 S) := (nfr2 _ (by omega)).trans hu_
      have fr__6 : ∀ q : Nat, (q ≠ m ∧ q ≠ m + 2 ∧ q ≠ m + 11) → h27 q = h q := fun q hq => (nfr2 q (by omega)).trans (fr_ q hq)
      have hkb := drZ_b (sdN (sdN sd)) (n := φ.length) (by omega)
      rw [show drZ (sdN (sdN sd)) φ.length = ((drZ (sdN (sdN sd)) φ.length).toNat : Int) by omega]
      refine g_cSv k (As := [.ref (m + 2), vi ((drZ (sdN (sdN sd)) φ.length).toNat : Int)]) v_X10_forgets ml_X10_256 (c_X10_forgets hn__6 hR hS (k1 := (drZ (sdN (sdN sd)) φ.length).toNat) (by omega)) (by omega) (by omega) rfl (Nat.le_of_ble_eq_true rfl) rfl dX10_does_30 (fun h30 p30 => ?_)
      obtain ⟨⟨N4, nn, hR4⟩, nfr4⟩ := p30
      have hm__7 : h30 m = some (mo m (fu s 20 (sdN (sdN sd)))) := (nfr4 _ (by omega)).trans hm__6
      have hn__7 : h30 (m + 2) = some (ai G 86 N4) := nn
      have hu__7 : h30 (m + 11) = some (ai G 64 S) := (nfr4 _ (by omega)).trans hu__6
      have fr__7 : ∀ q : Nat, (q ≠ m ∧ q ≠ m + 2 ∧ q ≠ m + 11) → h30 q = h q := fun q hq => (nfr4 q (by omega)).trans (fr__6 q hq)
      refine g_iconst k dX10_does_33 ?_
      rw [← hQQ]
      refine g_zreti k (by omega) rfl dX10_does_34 ?_
      have e : ddF it φ sd = (True, fgt φ (drZ (sdN (sdN sd)) φ.length).toNat, sdN (sdN sd)) := by unfold ddF dgF; rw [if_pos (by omega), if_neg (by omega)]
      rw [e]
      exact ⟨bz.y trivial, ⟨hm__7, ⟨N4, hn__7, hR4⟩, ⟨_, hu__7⟩⟩, fr__7⟩
    · skip
      refine g_iconst k dX10_does_16 ?_
      rw [← hQQ]
      refine g_zreti k (by omega) rfl dX10_does_17 ?_
      have e : ddF it φ sd = (False, φ, sdN sd) := by unfold ddF dgF; rw [if_pos (by omega), if_pos (by omega)]
      rw [e]
      exact ⟨bz.n id, ⟨hm_, ⟨N, hn_, hR⟩, ⟨_, hu_⟩⟩, fr_⟩

set_option maxHeartbeats 600000 in
set_option maxRecDepth 100000 in
theorem c_X10_drawn {G : Gx} {h : Hp} {nx m : Nat} {it : Nat} {φ : Fs} {ps : List (Nat × Fs)} {im : Nat → Option (Nat × Fs)} {V : RV} {n : Nat} {T : Nat → Int} {ft : Nat} (hM : MS G h m it φ ps im V n T ft) (hS : Sm it φ) (hG : Good φ) (hps : PsO ps) {p p2 : Int} (rp : -2147483648 ≤ p ∧ p ≤ 2147483647) : Con G yX10_drawn cX10_drawn 5 (some .int) 7 0 0 [.ref m, vi p, vi p2] h nx (PI fun z h' => z = (dwT it φ ps p p2).1 ∧ MT G h' m 0 it (dwT it φ ps p p2).2.1 (dwT it φ ps p p2).2.2 im V n T ft ∧ ∀ q : Nat, (q < m ∨ m + 17 < q) → h' q = h q) := by
  obtain ⟨th, s, ⟨hm, cq1, cq2, cq3, cq4, cq5, cq6, cq7, cq8, cq9, cq10, cq11, cq12, cq13, cq14, cq15, cq16, cq17⟩, hsc, hth⟩ := hM
  obtain ⟨z1, z6, z9, z14, z17, z15, z16⟩ := id hsc
  obtain ⟨N, hn, hR⟩ := id cq2
  obtain ⟨S, hu⟩ := id cq11
  obtain ⟨Ns, hs5, hsr5⟩ := id cq5
  obtain ⟨Nb, hb⟩ := id cq6
  obtain ⟨Nl, hl⟩ := id cq7
  obtain ⟨h8, h28, hsm⟩ := id hS
  refine Con.of v_X10_drawn.2.2.2.2.2.1 (Nat.le_of_ble_eq_true rfl) (lv := [(0, .ref m), (1, vi p), (2, vi p2)]) rfl (fun X k => ?_)
  generalize hQQ : QM G X nx 0 0 _ = QQ
  have fr0 : ∀ q : Nat, (q ≠ m ∧ q ≠ m + 2 ∧ q ≠ m + 5 ∧ q ≠ m + 6 ∧ q ≠ m + 7 ∧ q ≠ m + 11) → h q = h q := fun _ _ => rfl
  refine g_aload_n k rfl dX10_drawn_0 ?_
  refine g_iconst k dX10_drawn_1 ?_
  refine g_put k 10 0 (C := RX10) (T := TX10) (N := 38) fl_X10_1 rfl wi_X10 tyX10 tyX10_ok nmX10 (by decide) rfl rfl rfl rfl hm (Nat.le_of_ble_eq_true rfl) (fs2 := mol m (fu s 0 0)) rfl rfl dX10_drawn_2 (fun h2 eh2 => ?_)
  have hm_ : h2 m = some (mo m (fu s 0 0)) := (congrFun eh2 _).trans hup_s
  have hn_ : h2 (m + 2) = some (ai G 86 N) := (congrFun eh2 _).trans ((hup_n (by omega)).trans hn)
  have hu_ : h2 (m + 11) = some (ai G 64 S) := (congrFun eh2 _).trans ((hup_n (by omega)).trans hu)
  have hs5_ : h2 (m + 5) = some (ai G 688 Ns) := (congrFun eh2 _).trans ((hup_n (by omega)).trans hs5)
  have hb_ : h2 (m + 6) = some (ai G 86 Nb) := (congrFun eh2 _).trans ((hup_n (by omega)).trans hb)
  have hl_ : h2 (m + 7) = some (ai G 86 Nl) := (congrFun eh2 _).trans ((hup_n (by omega)).trans hl)
  have fr_ : ∀ q : Nat, (q ≠ m ∧ q ≠ m + 2 ∧ q ≠ m + 5 ∧ q ≠ m + 6 ∧ q ≠ m + 7 ∧ q ≠ m + 11) → h2 q = h q := fun q hq => (congrFun eh2 q).trans ((hup_n (by omega)).trans (fr0 q hq))
  refine g_iload_n k rfl dX10_drawn_5 ?_
  refine g_iconst k dX10_drawn_6 ?_
  refine g_bipush k rfl dX10_drawn_7 ?_
  refine g_cSi k (As := [vi p, vi 1, vi 60]) v_X10_isIn ml_X10_224 (c_X10_isIn rp (by omega) (by omega)) (by omega) (by omega) rfl (Nat.le_of_ble_eq_true rfl) rfl dX10_drawn_9 (fun r9 h9 p9 => ?_)
  obtain ⟨eh9, p9⟩ := p9
  have eh9 := eh9.symm; subst eh9
  have q9 := p9
  have q9r := q9.r
  refine g_if_ne k (tgt := 17) (by omega) dX10_drawn_12 (by decide) (fun c12 => ?_) (fun c12 => ?_)
  · skip
    have hh := q9.t (by omega)
    obtain ⟨k1, ek1⟩ : ∃ k1 : Nat, p = k1 := ⟨p.toNat, by omega⟩
    rw [ek1]
    refine g_aload_n k rfl dX10_drawn_17 ?_
    refine g_get k 10 10 (v := .ref (m + 2)) (C := RX10) (T := TX10) (N := 38) fl_X10_74 rfl wi_X10 (by decide) rfl hm_ rfl dX10_drawn_18 ?_
    refine g_iconst k dX10_drawn_21 ?_
    refine g_aload_n k rfl dX10_drawn_22 ?_
    refine g_get k 10 14 (v := .ref (m + 6)) (C := RX10) (T := TX10) (N := 38) fl_X10_86 rfl wi_X10 (by decide) rfl hm_ rfl dX10_drawn_23 ?_
    refine g_iconst k dX10_drawn_26 ?_
    refine g_cSv k (As := [.ref (m + 2), vi 0, .ref (m + 6), vi 0]) v_X10_copy ml_X10_163 (c_X10_copy (st := 0) (to := 0) hn_ hb_ (by omega) (by omega) (by omega) (by omega) (by omega)) (by omega) (by omega) rfl (Nat.le_of_ble_eq_true rfl) rfl dX10_drawn_27 (fun h27 p27 => ?_)
    obtain ⟨nb, nfr⟩ := p27
    have hm__1 : h27 m = some (mo m (fu s 0 0)) := (nfr _ (by omega)).trans hm_
    have hn__1 : h27 (m + 2) = some (ai G 86 N) := (nfr _ (by omega)).trans hn_
    have hu__1 : h27 (m + 11) = some (ai G 64 S) := (nfr _ (by omega)).trans hu_
    have hs5__1 : h27 (m + 5) = some (ai G 688 Ns) := (nfr _ (by omega)).trans hs5_
    have hb__1 : h27 (m + 6) = some (ai G 86 (cpF N 0 Nb 0 86)) := nb
    have hl__1 : h27 (m + 7) = some (ai G 86 Nl) := (nfr _ (by omega)).trans hl_
    have fr__1 : ∀ q : Nat, (q ≠ m ∧ q ≠ m + 2 ∧ q ≠ m + 5 ∧ q ≠ m + 6 ∧ q ≠ m + 7 ∧ q ≠ m + 11) → h27 q = h q := fun q hq => (nfr q (by omega)).trans (fr_ q hq)
    have hRb : Rw (cpF N 0 Nb 0 86) it φ := hR.ext h28 (fun j hj => by have := @cpF_in N Nb 0 0 j hj; rw [Nat.zero_add] at this; exact this)
    refine g_aload_n k rfl dX10_drawn_30 ?_
    refine g_iload_n k rfl dX10_drawn_31 ?_
    refine g_put k 10 37 (C := RX10) (T := TX10) (N := 38) fl_X10_326 rfl wi_X10 tyX10 tyX10_ok nmX10 (by decide) rfl rfl rfl rfl hm__1 (Nat.le_of_ble_eq_true rfl) (fs2 := mol m (fu (fu s 0 0) 20 p2)) rfl rfl dX10_drawn_32 (fun h32 eh32 => ?_)
    have hm__2 : h32 m = some (mo m (fu (fu s 0 0) 20 p2)) := (congrFun eh32 _).trans hup_s
    have hn__2 : h32 (m + 2) = some (ai G 86 N) := (congrFun eh32 _).trans ((hup_n (by omega)).trans hn__1)
    have hu__2 : h32 (m + 11) = some (ai G 64 S) := (congrFun eh32 _).trans ((hup_n (by omega)).trans hu__1)
    have hs5__2 : h32 (m + 5) = some (ai G 688 Ns) := (congrFun eh32 _).trans ((hup_n (by omega)).trans hs5__1)
    have hb__2 : h32 (m + 6) = some (ai G 86 (cpF N 0 Nb 0 86)) := (congrFun eh32 _).trans ((hup_n (by omega)).trans hb__1)
    have hl__2 : h32 (m + 7) = some (ai G 86 Nl) := (congrFun eh32 _).trans ((hup_n (by omega)).trans hl__1)
    have fr__2 : ∀ q : Nat, (q ≠ m ∧ q ≠ m + 2 ∧ q ≠ m + 5 ∧ q ≠ m + 6 ∧ q ≠ m + 7 ∧ q ≠ m + 11) → h32 q = h q := fun q hq => (congrFun eh32 q).trans ((hup_n (by omega)).trans (fr__1 q hq))
    refine g_iconst k dX10_drawn_35 ?_
    refine g_istore_n k (lv2 := [(0, .ref m), (1, vi (k1 : Int)), (2, vi p2), (3, vi 0)]) (by decide) rfl rfl dX10_drawn_36 ?_
    refine g_iconst k dX10_drawn_37 ?_
    refine g_istore k (lv2 := [(0, .ref m), (1, vi (k1 : Int)), (2, vi p2), (3, vi 0), (4, vi 0)]) (by decide) rfl rfl dX10_drawn_38 ?_
    have K40 : ∀ (nz : Nat) (v : Nat) (N4 : Nat → Int) (S4 : Nat → Int) (h40 : Hp) (hm__3 : h40 m = some (mo m (fu (fu s 0 0) 20 ((ddN it φ p2 v).2.2)))) (hn__3 : h40 (m + 2) = some (ai G 86 N4)) (hu__3 : h40 (m + 11) = some (ai G 64 S4)) (hs5__3 : h40 (m + 5) = some (ai G 688 Ns)) (hb__3 : h40 (m + 6) = some (ai G 86 (cpF N 0 Nb 0 86))) (hl__3 : h40 (m + 7) = some (ai G 86 Nl)) (fr__3 : ∀ q : Nat, (q ≠ m ∧ q ≠ m + 2 ∧ q ≠ m + 5 ∧ q ≠ m + 6 ∧ q ≠ m + 7 ∧ q ≠ m + 11) → h40 q = h q) (hv : v ≤ k1) (hR4 : Rw N4 it (ddN it φ p2 v).2.1) (hmz : k1 - v < nz), Go G X 5 QQ 0 0 nx 40 [(0, .ref m), (1, vi (k1 : Int)), (2, vi p2), (3, vi ((ddN it φ p2 v).1 : Int)), (4, vi (v : Int))] [] h40 := by
      intro nz
      induction nz with
      | zero => intro v N4 S4 h40 hm__3 hn__3 hu__3 hs5__3 hb__3 hl__3 fr__3 hv hR4 hmz; exact absurd hmz (Nat.not_lt_zero _)
      | succ nz ih40 =>
        intro v N4 S4 h40 hm__3 hn__3 hu__3 hs5__3 hb__3 hl__3 fr__3 hv hR4 hmz
        refine g_iload k rfl dX10_drawn_40 ?_
        refine g_iload_n k rfl dX10_drawn_42 ?_
        refine g_icmp_ge k (tgt := 62) (by omega) (by omega) dX10_drawn_43 (by decide) (fun c43 => ?_) (fun c43 => ?_)
        · skip
          have ev : v = k1 := by omega
          rw [ev] at hR4 hm__3 ⊢
          have hle := ddN_le it φ p2 k1
          refine g_iload_n k rfl dX10_drawn_62 ?_
          refine g_if_le k (tgt := 70) (by omega) dX10_drawn_63 (by decide) (fun c63 => ?_) (fun c63 => ?_)
          · skip
            refine g_iload_n k rfl dX10_drawn_70 ?_
            rw [← hQQ]
            refine g_ireti k rfl dX10_drawn_71 ?_
            have e : dwT it φ ps p p2 = ((((ddN it φ p2 k1).1 : Nat) : Int), (ddN it φ p2 k1).2.1, ps) := by unfold dwT; rw [if_pos (by omega), ek1, Int.toNat_natCast, if_neg (by omega)]
            rw [e]
            exact ⟨rfl, ⟨_, ⟨hm__3, ((fr__3 (m + 1) (by omega)).trans cq1), ⟨_, hn__3, hR4⟩, (by rw [fr__3 (m + 3) (by omega)]; exact cq3), (by rw [fr__3 (m + 4) (by omega)]; exact cq4), ⟨_, hs5__3, hsr5⟩, ⟨_, hb__3⟩, ⟨_, hl__3⟩, (by rw [fr__3 (m + 8) (by omega)]; exact cq8), (by rw [fr__3 (m + 9) (by omega)]; exact cq9), (by rw [fr__3 (m + 10) (by omega)]; exact cq10), ⟨_, hu__3⟩, (by rw [fr__3 (m + 12) (by omega)]; exact cq12), (by rw [fr__3 (m + 13) (by omega)]; exact cq13), (by rw [fr__3 (m + 14) (by omega)]; exact cq14), (by rw [fr__3 (m + 15) (by omega)]; exact cq15), (by rw [fr__3 (m + 16) (by omega)]; exact cq16), (by rw [fr__3 (m + 17) (by omega)]; exact cq17)⟩, hsc, rfl⟩, (fun q hq => fr__3 q (by omega))⟩
          · skip
            refine g_aload_n k rfl dX10_drawn_66 ?_
            refine g_cVv k 10 (As := []) v_X10_stay rfl rfl hm__3 ml_X10_323 (c_X10_stay hm__3 hn__3 hR4 (Sm_ddN hS p2 k1) ⟨Ns, hs5__3, hsr5⟩ hps z9 hb__3 hRb hS hl__3) (by omega) (by omega) rfl (Nat.le_of_ble_eq_true rfl) rfl dX10_drawn_67 (fun h67 p67 => ?_)
            obtain ⟨⟨nm6, ⟨N6, nn6, hR6⟩, ⟨Ns6, ns6, hsr6⟩, ⟨Nl6, nl6⟩⟩, nfr6⟩ := p67
            have hm__4 : h67 m = some (mo m (fu (fu (fu s 0 0) 9 ((psh ps (it, φ)).length : Int)) 20 ((ddN it φ p2 k1).2.2))) := (by first | exact nm6 | rw [nm6, show fu (fu (fu s 0 0) 20 ((ddN it φ p2 k1).2.2)) 9 ((psh ps (it, φ)).length : Int) = fu (fu (fu s 0 0) 9 ((psh ps (it, φ)).length : Int)) 20 ((ddN it φ p2 k1).2.2) by funext j; unfold fu; (repeat' split) <;> first | rfl | omega])
            have hn__4 : h67 (m + 2) = some (ai G 86 N6) := nn6
            have hu__4 : h67 (m + 11) = some (ai G 64 S4) := (nfr6 _ (by omega)).trans hu__3
            have hs5__4 : h67 (m + 5) = some (ai G 688 Ns6) := ns6
            have hb__4 : h67 (m + 6) = some (ai G 86 (cpF N 0 Nb 0 86)) := (nfr6 _ (by omega)).trans hb__3
            have hl__4 : h67 (m + 7) = some (ai G 86 Nl6) := nl6
            have fr__4 : ∀ q : Nat, (q ≠ m ∧ q ≠ m + 2 ∧ q ≠ m + 5 ∧ q ≠ m + 6 ∧ q ≠ m + 7 ∧ q ≠ m + 11) → h67 q = h q := fun q hq => (nfr6 q (by omega)).trans (fr__3 q hq)
            refine g_iload_n k rfl dX10_drawn_70 ?_
            rw [← hQQ]
            refine g_ireti k rfl dX10_drawn_71 ?_
            have e : dwT it φ ps p p2 = ((((ddN it φ p2 k1).1 : Nat) : Int), (ddN it φ p2 k1).2.1, psh ps (it, φ)) := by unfold dwT; rw [if_pos (by omega), ek1, Int.toNat_natCast, if_pos (by omega)]
            rw [e]
            exact ⟨rfl, ⟨_, ⟨hm__4, ((fr__4 (m + 1) (by omega)).trans cq1), ⟨_, hn__4, hR6⟩, (by rw [fr__4 (m + 3) (by omega)]; exact cq3), (by rw [fr__4 (m + 4) (by omega)]; exact cq4), ⟨_, hs5__4, hsr6⟩, ⟨_, hb__4⟩, ⟨_, hl__4⟩, (by rw [fr__4 (m + 8) (by omega)]; exact cq8), (by rw [fr__4 (m + 9) (by omega)]; exact cq9), (by rw [fr__4 (m + 10) (by omega)]; exact cq10), ⟨_, hu__4⟩, (by rw [fr__4 (m + 12) (by omega)]; exact cq12), (by rw [fr__4 (m + 13) (by omega)]; exact cq13), (by rw [fr__4 (m + 14) (by omega)]; exact cq14), (by rw [fr__4 (m + 15) (by omega)]; exact cq15), (by rw [fr__4 (m + 16) (by omega)]; exact cq16), (by rw [fr__4 (m + 17) (by omega)]; exact cq17)⟩, ⟨z1, z6, rfl, z14, z17, z15, z16⟩, rfl⟩, (fun q hq => fr__4 q (by omega))⟩
        · skip
          have hS4 := Sm_ddN hS p2 v
          have hG4 := Good_ddN hS hG p2 v
          have hle := ddN_le it φ p2 v
          refine g_aload_n k rfl dX10_drawn_46 ?_
          refine g_cVi k 10 (As := []) v_X10_does rfl rfl hm__3 ml_X10_333 (c_X10_does hm__3 hn__3 hR4 hS4 hu__3 (sd := (ddN it φ p2 v).2.2) rfl hG4) (by omega) (by omega) rfl (Nat.le_of_ble_eq_true rfl) rfl dX10_drawn_47 (fun r47 h47 p47 => ?_)
          obtain ⟨hz, ⟨nm5, ⟨N5, nn5, hR5⟩, ⟨S5, nu5⟩⟩, nfr5⟩ := p47
          have hm__5 : h47 m = some (mo m (fu (fu s 0 0) 20 ((ddN it φ p2 (v + 1)).2.2))) := (by rw [nm5, fu_fu]; rfl)
          have hn__5 : h47 (m + 2) = some (ai G 86 N5) := nn5
          have hu__5 : h47 (m + 11) = some (ai G 64 S5) := nu5
          have hs5__5 : h47 (m + 5) = some (ai G 688 Ns) := (nfr5 _ (by omega)).trans hs5__3
          have hb__5 : h47 (m + 6) = some (ai G 86 (cpF N 0 Nb 0 86)) := (nfr5 _ (by omega)).trans hb__3
          have hl__5 : h47 (m + 7) = some (ai G 86 Nl) := (nfr5 _ (by omega)).trans hl__3
          have fr__5 : ∀ q : Nat, (q ≠ m ∧ q ≠ m + 2 ∧ q ≠ m + 5 ∧ q ≠ m + 6 ∧ q ≠ m + 7 ∧ q ≠ m + 11) → h47 q = h q := fun q hq => (nfr5 q (by omega)).trans (fr__3 q hq)
          have hzr := hz.r
          refine g_if_eq k (tgt := 56) (by omega) dX10_drawn_50 (by decide) (fun c50 => ?_) (fun c50 => ?_)
          · skip
            refine g_iinc k (lv2 := [(0, .ref m), (1, vi (k1 : Int)), (2, vi p2), (3, vi ((ddN it φ p2 v).1 : Int)), (4, vi ((v : Int) + 1))]) rfl (by decide) rfl rfl dX10_drawn_56 ?_
            refine g_goto k (tgt := 40) dX10_drawn_59 (by decide) ?_
            rw [show (ddN it φ p2 v).1 = (ddN it φ p2 (v + 1)).1 from (ddN_n (hz.f (by omega))).symm]
            exact ih40 (v + 1) _ _ h47 hm__5 hn__5 hu__5 hs5__5 hb__5 hl__5 fr__5 (by omega) hR5 (by omega)
          · skip
            refine g_iinc k (lv2 := [(0, .ref m), (1, vi (k1 : Int)), (2, vi p2), (3, vi (((ddN it φ p2 v).1 : Int) + 1)), (4, vi (v : Int))]) rfl (by decide) rfl rfl dX10_drawn_53 ?_
            refine g_iinc k (lv2 := [(0, .ref m), (1, vi (k1 : Int)), (2, vi p2), (3, vi (((ddN it φ p2 v).1 : Int) + 1)), (4, vi ((v : Int) + 1))]) rfl (by decide) rfl rfl dX10_drawn_56 ?_
            refine g_goto k (tgt := 40) dX10_drawn_59 (by decide) ?_
            rw [show ((ddN it φ p2 v).1 : Int) + 1 = ((ddN it φ p2 (v + 1)).1 : Nat) by rw [ddN_y (hz.t (by omega))]; rfl]
            exact ih40 (v + 1) _ _ h47 hm__5 hn__5 hu__5 hs5__5 hb__5 hl__5 fr__5 (by omega) hR5 (by omega)
    exact K40 _ 0 _ _ h32 hm__2 hn__2 hu__2 hs5__2 hb__2 hl__2 fr__2 (Nat.zero_le _) hR (Nat.lt_succ_self _)
  · skip
    refine g_iconst k dX10_drawn_15 ?_
    rw [← hQQ]
    refine g_ireti k rfl dX10_drawn_16 ?_
    have e : dwT it φ ps p p2 = (-1, φ, ps) := by unfold dwT; rw [if_neg (fun g => q9.f (by omega) g)]
    rw [e]
    exact ⟨rfl, ⟨_, ⟨hm_, ((fr_ (m + 1) (by omega)).trans cq1), ⟨N, hn_, hR⟩, (by rw [fr_ (m + 3) (by omega)]; exact cq3), (by rw [fr_ (m + 4) (by omega)]; exact cq4), ⟨_, hs5_, hsr5⟩, ⟨_, hb_⟩, ⟨_, hl_⟩, (by rw [fr_ (m + 8) (by omega)]; exact cq8), (by rw [fr_ (m + 9) (by omega)]; exact cq9), (by rw [fr_ (m + 10) (by omega)]; exact cq10), ⟨_, hu_⟩, (by rw [fr_ (m + 12) (by omega)]; exact cq12), (by rw [fr_ (m + 13) (by omega)]; exact cq13), (by rw [fr_ (m + 14) (by omega)]; exact cq14), (by rw [fr_ (m + 15) (by omega)]; exact cq15), (by rw [fr_ (m + 16) (by omega)]; exact cq16), (by rw [fr_ (m + 17) (by omega)]; exact cq17)⟩, hsc, rfl⟩, (fun q hq => fr_ q (by omega))⟩

set_option maxHeartbeats 600000 in
set_option maxRecDepth 100000 in
theorem c_X10_finish {G : Gx} {h : Hp} {nx m : Nat} {it : Nat} {φ : Fs} {ps : List (Nat × Fs)} {im : Nat → Option (Nat × Fs)} {V : RV} {n : Nat} {T : Nat → Int} {ft : Nat} (hM : MS G h m it φ ps im V n T ft) (hS : Sm it φ) (hG : Good φ) (hps : PsO ps) : Con G yX10_finish cX10_finish 4 (some .int) 7 0 0 [.ref m] h nx (PI fun z h' => z = ((fnT it φ).2.2 : Nat) ∧ MT G h' m 0 it (fnT it φ).1 (if 0 < (fnT it φ).2.2 then psh ps (it, φ) else ps) im V n T ft ∧ ∀ q : Nat, (q < m ∨ m + 17 < q) → h' q = h q) := by
  obtain ⟨th, s, ⟨hm, cq1, cq2, cq3, cq4, cq5, cq6, cq7, cq8, cq9, cq10, cq11, cq12, cq13, cq14, cq15, cq16, cq17⟩, hsc, hth⟩ := hM
  obtain ⟨z1, z6, z9, z14, z17, z15, z16⟩ := id hsc
  obtain ⟨N, hn, hR⟩ := id cq2
  obtain ⟨S, hu⟩ := id cq11
  obtain ⟨Ns, hs5, hsr5⟩ := id cq5
  obtain ⟨Nb, hb⟩ := id cq6
  obtain ⟨Nl, hl⟩ := id cq7
  obtain ⟨h8, h28, hsm⟩ := id hS
  refine Con.of v_X10_finish.2.2.2.2.2.1 (Nat.le_of_ble_eq_true rfl) (lv := [(0, .ref m)]) rfl (fun X k => ?_)
  generalize hQQ : QM G X nx 0 0 _ = QQ
  have fr0 : ∀ q : Nat, (q ≠ m ∧ q ≠ m + 2 ∧ q ≠ m + 5 ∧ q ≠ m + 6 ∧ q ≠ m + 7 ∧ q ≠ m + 11) → h q = h q := fun _ _ => rfl
  refine g_aload_n k rfl dX10_finish_0 ?_
  refine g_iconst k dX10_finish_1 ?_
  refine g_put k 10 0 (C := RX10) (T := TX10) (N := 38) fl_X10_1 rfl wi_X10 tyX10 tyX10_ok nmX10 (by decide) rfl rfl rfl rfl hm (Nat.le_of_ble_eq_true rfl) (fs2 := mol m (fu s 0 0)) rfl rfl dX10_finish_2 (fun h2 eh2 => ?_)
  have hm_ : h2 m = some (mo m (fu s 0 0)) := (congrFun eh2 _).trans hup_s
  have hn_ : h2 (m + 2) = some (ai G 86 N) := (congrFun eh2 _).trans ((hup_n (by omega)).trans hn)
  have hu_ : h2 (m + 11) = some (ai G 64 S) := (congrFun eh2 _).trans ((hup_n (by omega)).trans hu)
  have hs5_ : h2 (m + 5) = some (ai G 688 Ns) := (congrFun eh2 _).trans ((hup_n (by omega)).trans hs5)
  have hb_ : h2 (m + 6) = some (ai G 86 Nb) := (congrFun eh2 _).trans ((hup_n (by omega)).trans hb)
  have hl_ : h2 (m + 7) = some (ai G 86 Nl) := (congrFun eh2 _).trans ((hup_n (by omega)).trans hl)
  have fr_ : ∀ q : Nat, (q ≠ m ∧ q ≠ m + 2 ∧ q ≠ m + 5 ∧ q ≠ m + 6 ∧ q ≠ m + 7 ∧ q ≠ m + 11) → h2 q = h q := fun q hq => (congrFun eh2 q).trans ((hup_n (by omega)).trans (fr0 q hq))
  refine g_aload_n k rfl dX10_finish_5 ?_
  refine g_get k 10 10 (v := .ref (m + 2)) (C := RX10) (T := TX10) (N := 38) fl_X10_74 rfl wi_X10 (by decide) rfl hm_ rfl dX10_finish_6 ?_
  refine g_iconst k dX10_finish_9 ?_
  refine g_aload_n k rfl dX10_finish_10 ?_
  refine g_get k 10 14 (v := .ref (m + 6)) (C := RX10) (T := TX10) (N := 38) fl_X10_86 rfl wi_X10 (by decide) rfl hm_ rfl dX10_finish_11 ?_
  refine g_iconst k dX10_finish_14 ?_
  refine g_cSv k (As := [.ref (m + 2), vi 0, .ref (m + 6), vi 0]) v_X10_copy ml_X10_163 (c_X10_copy (st := 0) (to := 0) hn_ hb_ (by omega) (by omega) (by omega) (by omega) (by omega)) (by omega) (by omega) rfl (Nat.le_of_ble_eq_true rfl) rfl dX10_finish_15 (fun h15 p15 => ?_)
  obtain ⟨nb, nfr⟩ := p15
  have hm__1 : h15 m = some (mo m (fu s 0 0)) := (nfr _ (by omega)).trans hm_
  have hn__1 : h15 (m + 2) = some (ai G 86 N) := (nfr _ (by omega)).trans hn_
  have hu__1 : h15 (m + 11) = some (ai G 64 S) := (nfr _ (by omega)).trans hu_
  have hs5__1 : h15 (m + 5) = some (ai G 688 Ns) := (nfr _ (by omega)).trans hs5_
  have hb__1 : h15 (m + 6) = some (ai G 86 (cpF N 0 Nb 0 86)) := nb
  have hl__1 : h15 (m + 7) = some (ai G 86 Nl) := (nfr _ (by omega)).trans hl_
  have fr__1 : ∀ q : Nat, (q ≠ m ∧ q ≠ m + 2 ∧ q ≠ m + 5 ∧ q ≠ m + 6 ∧ q ≠ m + 7 ∧ q ≠ m + 11) → h15 q = h q := fun q hq => (nfr q (by omega)).trans (fr_ q hq)
  have hRb : Rw (cpF N 0 Nb 0 86) it φ := hR.ext h28 (fun j hj => by have := @cpF_in N Nb 0 0 j hj; rw [Nat.zero_add] at this; exact this)
  refine g_iconst k dX10_finish_18 ?_
  refine g_istore_n k (lv2 := [(0, .ref m), (1, vi 0)]) (by decide) rfl rfl dX10_finish_19 ?_
  refine g_iconst k dX10_finish_20 ?_
  refine g_istore_n k (lv2 := [(0, .ref m), (1, vi 0), (2, vi 0)]) (by decide) rfl rfl dX10_finish_21 ?_
  have K22 : ∀ (nz : Nat) (a : Nat) (N4 : Nat → Int) (S4 : Nat → Int) (h22 : Hp) (hm__2 : h22 m = some (mo m (fu s 0 0))) (hn__2 : h22 (m + 2) = some (ai G 86 N4)) (hu__2 : h22 (m + 11) = some (ai G 64 S4)) (hs5__2 : h22 (m + 5) = some (ai G 688 Ns)) (hb__2 : h22 (m + 6) = some (ai G 86 (cpF N 0 Nb 0 86))) (hl__2 : h22 (m + 7) = some (ai G 86 Nl)) (fr__2 : ∀ q : Nat, (q ≠ m ∧ q ≠ m + 2 ∧ q ≠ m + 5 ∧ q ≠ m + 6 ∧ q ≠ m + 7 ∧ q ≠ m + 11) → h22 q = h q) (ha : a ≤ it) (hR4 : Rw N4 it (fnO it (φ, wgh φ 0 it, 0) a).1) (hF4 : FMq it (fnO it (φ, wgh φ 0 it, 0) a).1 (fnO it (φ, wgh φ 0 it, 0) a).2.1) (hc4 : (fnO it (φ, wgh φ 0 it, 0) a).2.2 ≤ 100 * a) (hmz : it - a < nz), Go G X 4 QQ 0 0 nx 22 [(0, .ref m), (1, vi ((fnO it (φ, wgh φ 0 it, 0) a).2.2 : Int)), (2, vi (a : Int))] [] h22 := by
    intro nz
    induction nz with
    | zero => intro a N4 S4 h22 hm__2 hn__2 hu__2 hs5__2 hb__2 hl__2 fr__2 ha hR4 hF4 hc4 hmz; exact absurd hmz (Nat.not_lt_zero _)
    | succ nz ih22 =>
      intro a N4 S4 h22 hm__2 hn__2 hu__2 hs5__2 hb__2 hl__2 fr__2 ha hR4 hF4 hc4 hmz
      refine g_iload_n k rfl dX10_finish_22 ?_
      refine g_aload_n k rfl dX10_finish_23 ?_
      refine g_cVi k 10 (As := []) v_X10_items rfl rfl hm__2 ml_X10_228 (c_X10_items hm__2 hn__2 hR4 hF4.1) (by omega) (by omega) rfl (Nat.le_of_ble_eq_true rfl) rfl dX10_finish_24 (fun r24 h24 p24 => ?_)
      obtain ⟨eh24, p24⟩ := p24
      have eh24 := eh24.symm; subst eh24
      subst p24
      refine g_icmp_ge k (tgt := 137) (by omega) (by omega) dX10_finish_27 (by decide) (fun c27 => ?_) (fun c27 => ?_)
      · skip
        have ea : a = it := by omega
        rw [ea] at hR4 hF4 hc4 ⊢
        refine g_iload_n k rfl dX10_finish_137 ?_
        refine g_if_le k (tgt := 145) (by omega) dX10_finish_138 (by decide) (fun c138 => ?_) (fun c138 => ?_)
        · skip
          refine g_iload_n k rfl dX10_finish_145 ?_
          rw [← hQQ]
          refine g_ireti k rfl dX10_finish_146 ?_
          rw [if_neg (show ¬ 0 < (fnT it φ).2.2 from fun q => by have q2 : 0 < (fnO it (φ, wgh φ 0 it, 0) it).2.2 := q; omega)]
          exact ⟨rfl, ⟨_, ⟨hm__2, ((fr__2 (m + 1) (by omega)).trans cq1), ⟨_, hn__2, hR4⟩, (by rw [fr__2 (m + 3) (by omega)]; exact cq3), (by rw [fr__2 (m + 4) (by omega)]; exact cq4), ⟨_, hs5__2, hsr5⟩, ⟨_, hb__2⟩, ⟨_, hl__2⟩, (by rw [fr__2 (m + 8) (by omega)]; exact cq8), (by rw [fr__2 (m + 9) (by omega)]; exact cq9), (by rw [fr__2 (m + 10) (by omega)]; exact cq10), ⟨_, hu__2⟩, (by rw [fr__2 (m + 12) (by omega)]; exact cq12), (by rw [fr__2 (m + 13) (by omega)]; exact cq13), (by rw [fr__2 (m + 14) (by omega)]; exact cq14), (by rw [fr__2 (m + 15) (by omega)]; exact cq15), (by rw [fr__2 (m + 16) (by omega)]; exact cq16), (by rw [fr__2 (m + 17) (by omega)]; exact cq17)⟩, hsc, rfl⟩, (fun q hq => fr__2 q (by omega))⟩
        · skip
          refine g_aload_n k rfl dX10_finish_141 ?_
          refine g_cVv k 10 (As := []) v_X10_stay rfl rfl hm__2 ml_X10_323 (c_X10_stay hm__2 hn__2 hR4 hF4.1 ⟨Ns, hs5__2, hsr5⟩ hps z9 hb__2 hRb hS hl__2) (by omega) (by omega) rfl (Nat.le_of_ble_eq_true rfl) rfl dX10_finish_142 (fun h142 p142 => ?_)
          obtain ⟨⟨nm6, ⟨N6, nn6, hR6⟩, ⟨Ns6, ns6, hsr6⟩, ⟨Nl6, nl6⟩⟩, nfr6⟩ := p142
          have hm__3 : h142 m = some (mo m (fu (fu s 0 0) 9 ((psh ps (it, φ)).length : Int))) := (by first | exact nm6 | rw [nm6, show fu (fu s 0 0) 9 ((psh ps (it, φ)).length : Int) = fu (fu s 0 0) 9 ((psh ps (it, φ)).length : Int) by funext j; unfold fu; (repeat' split) <;> first | rfl | omega])
          have hn__3 : h142 (m + 2) = some (ai G 86 N6) := nn6
          have hu__3 : h142 (m + 11) = some (ai G 64 S4) := (nfr6 _ (by omega)).trans hu__2
          have hs5__3 : h142 (m + 5) = some (ai G 688 Ns6) := ns6
          have hb__3 : h142 (m + 6) = some (ai G 86 (cpF N 0 Nb 0 86)) := (nfr6 _ (by omega)).trans hb__2
          have hl__3 : h142 (m + 7) = some (ai G 86 Nl6) := nl6
          have fr__3 : ∀ q : Nat, (q ≠ m ∧ q ≠ m + 2 ∧ q ≠ m + 5 ∧ q ≠ m + 6 ∧ q ≠ m + 7 ∧ q ≠ m + 11) → h142 q = h q := fun q hq => (nfr6 q (by omega)).trans (fr__2 q hq)
          refine g_iload_n k rfl dX10_finish_145 ?_
          rw [← hQQ]
          refine g_ireti k rfl dX10_finish_146 ?_
          rw [if_pos (show 0 < (fnT it φ).2.2 from (show 0 < (fnO it (φ, wgh φ 0 it, 0) it).2.2 by omega))]
          exact ⟨rfl, ⟨_, ⟨hm__3, ((fr__3 (m + 1) (by omega)).trans cq1), ⟨_, hn__3, hR6⟩, (by rw [fr__3 (m + 3) (by omega)]; exact cq3), (by rw [fr__3 (m + 4) (by omega)]; exact cq4), ⟨_, hs5__3, hsr6⟩, ⟨_, hb__3⟩, ⟨_, hl__3⟩, (by rw [fr__3 (m + 8) (by omega)]; exact cq8), (by rw [fr__3 (m + 9) (by omega)]; exact cq9), (by rw [fr__3 (m + 10) (by omega)]; exact cq10), ⟨_, hu__3⟩, (by rw [fr__3 (m + 12) (by omega)]; exact cq12), (by rw [fr__3 (m + 13) (by omega)]; exact cq13), (by rw [fr__3 (m + 14) (by omega)]; exact cq14), (by rw [fr__3 (m + 15) (by omega)]; exact cq15), (by rw [fr__3 (m + 16) (by omega)]; exact cq16), (by rw [fr__3 (m + 17) (by omega)]; exact cq17)⟩, ⟨z1, z6, rfl, z14, z17, z15, z16⟩, rfl⟩, (fun q hq => fr__3 q (by omega))⟩
      · skip
        refine g_iload_n k rfl dX10_finish_30 ?_
        refine g_iconst k dX10_finish_31 ?_
        refine g_iadd k dX10_finish_32 ?_
        refine g_istore_n k (lv2 := [(0, .ref m), (1, vi ((fnO it (φ, wgh φ 0 it, 0) a).2.2 : Int)), (2, vi (a : Int)), (3, vi ((a : Int) + 1))]) (by decide) rfl rfl dX10_finish_33 ?_
        have K34 : ∀ (nz_1 : Nat) (c : Nat) (N5 : Nat → Int) (S5 : Nat → Int) (h34 : Hp) (hm__4 : h34 m = some (mo m (fu s 0 0))) (hn__4 : h34 (m + 2) = some (ai G 86 N5)) (hu__4 : h34 (m + 11) = some (ai G 64 S5)) (hs5__4 : h34 (m + 5) = some (ai G 688 Ns)) (hb__4 : h34 (m + 6) = some (ai G 86 (cpF N 0 Nb 0 86))) (hl__4 : h34 (m + 7) = some (ai G 86 Nl)) (fr__4 : ∀ q : Nat, (q ≠ m ∧ q ≠ m + 2 ∧ q ≠ m + 5 ∧ q ≠ m + 6 ∧ q ≠ m + 7 ∧ q ≠ m + 11) → h34 q = h q) (hc : c ≤ it - (a + 1)) (hR5 : Rw N5 it (fnI it a (fnO it (φ, wgh φ 0 it, 0) a) c).1) (hF5 : FMq it (fnI it a (fnO it (φ, wgh φ 0 it, 0) a) c).1 (fnI it a (fnO it (φ, wgh φ 0 it, 0) a) c).2.1) (hc5 : (fnI it a (fnO it (φ, wgh φ 0 it, 0) a) c).2.2 ≤ 100 * a + c) (hmz_1 : it - (a + 1) - c < nz_1), Go G X 4 QQ 0 0 nx 34 [(0, .ref m), (1, vi ((fnI it a (fnO it (φ, wgh φ 0 it, 0) a) c).2.2 : Int)), (2, vi (a : Int)), (3, vi ((a + 1 + c : Nat) : Int))] [] h34 := by
          intro nz_1
          induction nz_1 with
          | zero => intro c N5 S5 h34 hm__4 hn__4 hu__4 hs5__4 hb__4 hl__4 fr__4 hc hR5 hF5 hc5 hmz_1; exact absurd hmz_1 (Nat.not_lt_zero _)
          | succ nz_1 ih34 =>
            intro c N5 S5 h34 hm__4 hn__4 hu__4 hs5__4 hb__4 hl__4 fr__4 hc hR5 hF5 hc5 hmz_1
            refine g_iload_n k rfl dX10_finish_34 ?_
            refine g_aload_n k rfl dX10_finish_35 ?_
            refine g_cVi k 10 (As := []) v_X10_items rfl rfl hm__4 ml_X10_228 (c_X10_items hm__4 hn__4 hR5 hF5.1) (by omega) (by omega) rfl (Nat.le_of_ble_eq_true rfl) rfl dX10_finish_36 (fun r36 h36 p36 => ?_)
            obtain ⟨eh36, p36⟩ := p36
            have eh36 := eh36.symm; subst eh36
            subst p36
            refine g_icmp_ge k (tgt := 131) (by omega) (by omega) dX10_finish_39 (by decide) (fun c39 => ?_) (fun c39 => ?_)
            · skip
              refine g_iinc k (lv2 := [(0, .ref m), (1, vi ((fnI it a (fnO it (φ, wgh φ 0 it, 0) a) c).2.2 : Int)), (2, vi ((a : Int) + 1)), (3, vi ((a + 1 + c : Nat) : Int))]) rfl (by decide) rfl rfl dX10_finish_131 ?_
              refine g_goto k (tgt := 22) dX10_finish_134 (by decide) ?_
              refine g_less (lv2 := [(0, .ref m), (1, vi ((fnI it a (fnO it (φ, wgh φ 0 it, 0) a) c).2.2 : Int)), (2, vi ((a : Int) + 1))]) ⟨rfl, rfl, rfl, trivial⟩ ?_
              have em : fnO it (φ, wgh φ 0 it, 0) (a + 1) = (fnI it a (fnO it (φ, wgh φ 0 it, 0) a) c) := by rw [fnO, show c = it - (a + 1) by omega]
              rw [← em] at hR5 hF5 hc5 ⊢
              exact ih22 (a + 1) _ _ h34 hm__4 hn__4 hu__4 hs5__4 hb__4 hl__4 fr__4 (by omega) hR5 hF5 (by omega) (by omega)
            · skip
              have hS5 := hF5.1
              have hib := @ix_b (fnI it a (fnO it (φ, wgh φ 0 it, 0) a) c).1 (a : Int) ((a + 1 + c : Nat) : Int)
              have hl9 := hS5.2.1
              refine g_aload_n k rfl dX10_finish_42 ?_
              refine g_get k 10 10 (v := .ref (m + 2)) (C := RX10) (T := TX10) (N := 38) fl_X10_74 rfl wi_X10 (by decide) rfl hm__4 rfl dX10_finish_43 ?_
              refine g_iload_n k rfl dX10_finish_46 ?_
              refine g_iload_n k rfl dX10_finish_47 ?_
              refine g_cSi k (As := [.ref (m + 2), vi (a : Int), vi ((a + 1 + c : Nat) : Int)]) v_X10_factOf ml_X10_142 (c_X10_factOf hn__4 hR5 hF5.1 (p := (a : Int)) (p2 := ((a + 1 + c : Nat) : Int)) (by omega) (by omega)) (by omega) (by omega) rfl (Nat.le_of_ble_eq_true rfl) rfl dX10_finish_48 (fun r48 h48 p48 => ?_)
              obtain ⟨eh48, p48⟩ := p48
              have eh48 := eh48.symm; subst eh48
              subst p48
              refine g_iconst k dX10_finish_51 ?_
              refine g_icmp_eq k (tgt := 58) (by omega) (by omega) dX10_finish_52 (by decide) (fun c52 => ?_) (fun c52 => ?_)
              · skip
                have hix5 : ix (fnI it a (fnO it (φ, wgh φ 0 it, 0) a) c).1 (a : Int) ((a + 1 + c : Nat) : Int) = -1 := c52
                have hix6 : ix (fnI it a (fnO it (φ, wgh φ 0 it, 0) a) c).1 ((a + 1 + c : Nat) : Int) (a : Int) = -1 := by rw [ix_sym]; exact c52
                have hl5 := len28 hS5 (x := a) (y := a + 1 + c) (by omega) (by omega) (by omega) hix5
                refine g_aload_n k rfl dX10_finish_58 ?_
                refine g_aload_n k rfl dX10_finish_59 ?_
                refine g_get k 10 10 (v := .ref (m + 2)) (C := RX10) (T := TX10) (N := 38) fl_X10_74 rfl wi_X10 (by decide) rfl hm__4 rfl dX10_finish_60 ?_
                refine g_iconst k dX10_finish_63 ?_
                refine g_iload_n k rfl dX10_finish_64 ?_
                refine g_iload_n k rfl dX10_finish_65 ?_
                refine g_cVi k 10 (As := [.ref (m + 2), vi 0, vi (a : Int), vi ((a + 1 + c : Nat) : Int)]) v_X10_isGoodWith rfl rfl hm__4 ml_X10_270 (c_X10_isGoodWith hm__4 hn__4 hR5 hS5 (by omega) hu__4 (k1 := 0) (x := a) (y := (a + 1 + c)) (by decide) (by omega) (by omega) (by omega) hix5) (by omega) (by omega) rfl (Nat.le_of_ble_eq_true rfl) rfl dX10_finish_66 (fun r66 h66 p66 => ?_)
                obtain ⟨z66, ⟨N66, nn66, hR66⟩, ⟨S66, nu66⟩, nfr66⟩ := p66
                have hm__5 : h66 m = some (mo m (fu s 0 0)) := (nfr66 _ (by omega)).trans hm__4
                have hn__5 : h66 (m + 2) = some (ai G 86 N66) := nn66
                have hu__5 : h66 (m + 11) = some (ai G 64 S66) := nu66
                have hs5__5 : h66 (m + 5) = some (ai G 688 Ns) := (nfr66 _ (by omega)).trans hs5__4
                have hb__5 : h66 (m + 6) = some (ai G 86 (cpF N 0 Nb 0 86)) := (nfr66 _ (by omega)).trans hb__4
                have hl__5 : h66 (m + 7) = some (ai G 86 Nl) := (nfr66 _ (by omega)).trans hl__4
                have fr__5 : ∀ q : Nat, (q ≠ m ∧ q ≠ m + 2 ∧ q ≠ m + 5 ∧ q ≠ m + 6 ∧ q ≠ m + 7 ∧ q ≠ m + 11) → h66 q = h q := fun q hq => (nfr66 q (by omega)).trans (fr__4 q hq)
                have z66r := z66.r
                refine g_if_eq k (tgt := 85) (by omega) dX10_finish_69 (by decide) (fun c69 => ?_) (fun c69 => ?_)
                · skip
                  refine g_aload_n k rfl dX10_finish_85 ?_
                  refine g_aload_n k rfl dX10_finish_86 ?_
                  refine g_get k 10 10 (v := .ref (m + 2)) (C := RX10) (T := TX10) (N := 38) fl_X10_74 rfl wi_X10 (by decide) rfl hm__5 rfl dX10_finish_87 ?_
                  refine g_iconst k dX10_finish_90 ?_
                  refine g_iload_n k rfl dX10_finish_91 ?_
                  refine g_iload_n k rfl dX10_finish_92 ?_
                  refine g_cVi k 10 (As := [.ref (m + 2), vi 0, vi ((a + 1 + c : Nat) : Int), vi (a : Int)]) v_X10_isGoodWith rfl rfl hm__5 ml_X10_270 (c_X10_isGoodWith hm__5 hn__5 hR66 hS5 (by omega) hu__5 (k1 := 0) (x := (a + 1 + c)) (y := a) (by decide) (by omega) (by omega) (by omega) hix6) (by omega) (by omega) rfl (Nat.le_of_ble_eq_true rfl) rfl dX10_finish_93 (fun r93 h93 p93 => ?_)
                  obtain ⟨z93, ⟨N93, nn93, hR93⟩, ⟨S93, nu93⟩, nfr93⟩ := p93
                  have hm__6 : h93 m = some (mo m (fu s 0 0)) := (nfr93 _ (by omega)).trans hm__5
                  have hn__6 : h93 (m + 2) = some (ai G 86 N93) := nn93
                  have hu__6 : h93 (m + 11) = some (ai G 64 S93) := nu93
                  have hs5__6 : h93 (m + 5) = some (ai G 688 Ns) := (nfr93 _ (by omega)).trans hs5__5
                  have hb__6 : h93 (m + 6) = some (ai G 86 (cpF N 0 Nb 0 86)) := (nfr93 _ (by omega)).trans hb__5
                  have hl__6 : h93 (m + 7) = some (ai G 86 Nl) := (nfr93 _ (by omega)).trans hl__5
                  have fr__6 : ∀ q : Nat, (q ≠ m ∧ q ≠ m + 2 ∧ q ≠ m + 5 ∧ q ≠ m + 6 ∧ q ≠ m + 7 ∧ q ≠ m + 11) → h93 q = h q := fun q hq => (nfr93 q (by omega)).trans (fr__5 q hq)
                  have z93r := z93.r
                  refine g_if_eq k (tgt := 112) (by omega) dX10_finish_96 (by decide) (fun c96 => ?_) (fun c96 => ?_)
                  · skip
                    refine g_aload_n k rfl dX10_finish_112 ?_
                    refine g_get k 10 10 (v := .ref (m + 2)) (C := RX10) (T := TX10) (N := 38) fl_X10_74 rfl wi_X10 (by decide) rfl hm__6 rfl dX10_finish_113 ?_
                    refine g_iconst k dX10_finish_116 ?_
                    refine g_iload_n k rfl dX10_finish_117 ?_
                    refine g_iload_n k rfl dX10_finish_118 ?_
                    refine g_cSv k (As := [.ref (m + 2), vi 1, vi (a : Int), vi ((a + 1 + c : Nat) : Int)]) v_X10_tells ml_X10_153 (c_X10_tells hn__6 hR93 hS5 hl5 (k1 := 1) (x := a) (y := (a + 1 + c))) (by omega) (by omega) rfl (Nat.le_of_ble_eq_true rfl) rfl dX10_finish_119 (fun h119 p119 => ?_)
                    obtain ⟨⟨N119, nn119, hR119⟩, nfr119⟩ := p119
                    have hm__7 : h119 m = some (mo m (fu s 0 0)) := (nfr119 _ (by omega)).trans hm__6
                    have hn__7 : h119 (m + 2) = some (ai G 86 N119) := nn119
                    have hu__7 : h119 (m + 11) = some (ai G 64 S93) := (nfr119 _ (by omega)).trans hu__6
                    have hs5__7 : h119 (m + 5) = some (ai G 688 Ns) := (nfr119 _ (by omega)).trans hs5__6
                    have hb__7 : h119 (m + 6) = some (ai G 86 (cpF N 0 Nb 0 86)) := (nfr119 _ (by omega)).trans hb__6
                    have hl__7 : h119 (m + 7) = some (ai G 86 Nl) := (nfr119 _ (by omega)).trans hl__6
                    have fr__7 : ∀ q : Nat, (q ≠ m ∧ q ≠ m + 2 ∧ q ≠ m + 5 ∧ q ≠ m + 6 ∧ q ≠ m + 7 ∧ q ≠ m + 11) → h119 q = h q := fun q hq => (nfr119 q (by omega)).trans (fr__6 q hq)
                    refine g_iinc k (lv2 := [(0, .ref m), (1, vi (((fnI it a (fnO it (φ, wgh φ 0 it, 0) a) c).2.2 : Int) + 1)), (2, vi (a : Int)), (3, vi ((a + 1 + c : Nat) : Int))]) rfl (by decide) rfl rfl dX10_finish_122 ?_
                    refine g_iinc k (lv2 := [(0, .ref m), (1, vi (((fnI it a (fnO it (φ, wgh φ 0 it, 0) a) c).2.2 : Int) + 1)), (2, vi (a : Int)), (3, vi (((a + 1 + c : Nat) : Int) + 1))]) rfl (by decide) rfl rfl dX10_finish_125 ?_
                    refine g_goto k (tgt := 34) dX10_finish_128 (by decide) ?_
                    have ef := fso_3 (a := a) (b := (a + 1 + c)) hF5 (by omega) (by omega) (z66.f (by omega)) (z93.f (by omega))
                    have em : fnI it a (fnO it (φ, wgh φ 0 it, 0) a) (c + 1) = ((fnI it a (fnO it (φ, wgh φ 0 it, 0) a) c).1 ++ [(1, a, (a + 1 + c))], jnF (fnI it a (fnO it (φ, wgh φ 0 it, 0) a) c).2.1 it 1 a (a + 1 + c), (fnI it a (fnO it (φ, wgh φ 0 it, 0) a) c).2.2 + 1) := by rw [fnI, fn1, if_pos hix5, ef]
                    have hF7 := (FMq.o it).2 _ _ a (a + 1 + c) hF5 (by omega) (by omega) hix5
                    rw [ef] at hF7
                    have hc7 : (fnI it a (fnO it (φ, wgh φ 0 it, 0) a) (c + 1)).2.2 = (fnI it a (fnO it (φ, wgh φ 0 it, 0) a) c).2.2 + 1 := by rw [em]
                    rw [show ((fnI it a (fnO it (φ, wgh φ 0 it, 0) a) c).2.2 : Int) + 1 = ((fnI it a (fnO it (φ, wgh φ 0 it, 0) a) (c + 1)).2.2 : Int) by omega]
                    exact ih34 (c + 1) _ _ h119 hm__7 hn__7 hu__7 hs5__7 hb__7 hl__7 fr__7 (by omega) (by rw [em]; exact hR119) (by rw [em]; exact hF7) (by omega) (by omega)
                  · skip
                    refine g_aload_n k rfl dX10_finish_99 ?_
                    refine g_get k 10 10 (v := .ref (m + 2)) (C := RX10) (T := TX10) (N := 38) fl_X10_74 rfl wi_X10 (by decide) rfl hm__6 rfl dX10_finish_100 ?_
                    refine g_iconst k dX10_finish_103 ?_
                    refine g_iload_n k rfl dX10_finish_104 ?_
                    refine g_iload_n k rfl dX10_finish_105 ?_
                    refine g_cSv k (As := [.ref (m + 2), vi 0, vi ((a + 1 + c : Nat) : Int), vi (a : Int)]) v_X10_tells ml_X10_153 (c_X10_tells hn__6 hR93 hS5 hl5 (k1 := 0) (x := (a + 1 + c)) (y := a)) (by omega) (by omega) rfl (Nat.le_of_ble_eq_true rfl) rfl dX10_finish_106 (fun h106 p106 => ?_)
                    obtain ⟨⟨N106, nn106, hR106⟩, nfr106⟩ := p106
                    have hm__8 : h106 m = some (mo m (fu s 0 0)) := (nfr106 _ (by omega)).trans hm__6
                    have hn__8 : h106 (m + 2) = some (ai G 86 N106) := nn106
                    have hu__8 : h106 (m + 11) = some (ai G 64 S93) := (nfr106 _ (by omega)).trans hu__6
                    have hs5__8 : h106 (m + 5) = some (ai G 688 Ns) := (nfr106 _ (by omega)).trans hs5__6
                    have hb__8 : h106 (m + 6) = some (ai G 86 (cpF N 0 Nb 0 86)) := (nfr106 _ (by omega)).trans hb__6
                    have hl__8 : h106 (m + 7) = some (ai G 86 Nl) := (nfr106 _ (by omega)).trans hl__6
                    have fr__8 : ∀ q : Nat, (q ≠ m ∧ q ≠ m + 2 ∧ q ≠ m + 5 ∧ q ≠ m + 6 ∧ q ≠ m + 7 ∧ q ≠ m + 11) → h106 q = h q := fun q hq => (nfr106 q (by omega)).trans (fr__6 q hq)
                    refine g_goto k (tgt := 122) dX10_finish_109 (by decide) ?_
                    refine g_iinc k (lv2 := [(0, .ref m), (1, vi (((fnI it a (fnO it (φ, wgh φ 0 it, 0) a) c).2.2 : Int) + 1)), (2, vi (a : Int)), (3, vi ((a + 1 + c : Nat) : Int))]) rfl (by decide) rfl rfl dX10_finish_122 ?_
                    refine g_iinc k (lv2 := [(0, .ref m), (1, vi (((fnI it a (fnO it (φ, wgh φ 0 it, 0) a) c).2.2 : Int) + 1)), (2, vi (a : Int)), (3, vi (((a + 1 + c : Nat) : Int) + 1))]) rfl (by decide) rfl rfl dX10_finish_125 ?_
                    refine g_goto k (tgt := 34) dX10_finish_128 (by decide) ?_
                    have ef := fso_2 (a := a) (b := (a + 1 + c)) hF5 (by omega) (by omega) (z66.f (by omega)) (z93.t (by omega))
                    have em : fnI it a (fnO it (φ, wgh φ 0 it, 0) a) (c + 1) = ((fnI it a (fnO it (φ, wgh φ 0 it, 0) a) c).1 ++ [(0, (a + 1 + c), a)], jnF (fnI it a (fnO it (φ, wgh φ 0 it, 0) a) c).2.1 it 0 (a + 1 + c) a, (fnI it a (fnO it (φ, wgh φ 0 it, 0) a) c).2.2 + 1) := by rw [fnI, fn1, if_pos hix5, ef]
                    have hF7 := (FMq.o it).2 _ _ a (a + 1 + c) hF5 (by omega) (by omega) hix5
                    rw [ef] at hF7
                    have hc7 : (fnI it a (fnO it (φ, wgh φ 0 it, 0) a) (c + 1)).2.2 = (fnI it a (fnO it (φ, wgh φ 0 it, 0) a) c).2.2 + 1 := by rw [em]
                    rw [show ((fnI it a (fnO it (φ, wgh φ 0 it, 0) a) c).2.2 : Int) + 1 = ((fnI it a (fnO it (φ, wgh φ 0 it, 0) a) (c + 1)).2.2 : Int) by omega]
                    exact ih34 (c + 1) _ _ h106 hm__8 hn__8 hu__8 hs5__8 hb__8 hl__8 fr__8 (by omega) (by rw [em]; exact hR106) (by rw [em]; exact hF7) (by omega) (by omega)
                · skip
                  refine g_aload_n k rfl dX10_finish_72 ?_
                  refine g_get k 10 10 (v := .ref (m + 2)) (C := RX10) (T := TX10) (N := 38) fl_X10_74 rfl wi_X10 (by decide) rfl hm__5 rfl dX10_finish_73 ?_
                  refine g_iconst k dX10_finish_76 ?_
                  refine g_iload_n k rfl dX10_finish_77 ?_
                  refine g_iload_n k rfl dX10_finish_78 ?_
                  refine g_cSv k (As := [.ref (m + 2), vi 0, vi (a : Int), vi ((a + 1 + c : Nat) : Int)]) v_X10_tells ml_X10_153 (c_X10_tells hn__5 hR66 hS5 hl5 (k1 := 0) (x := a) (y := (a + 1 + c))) (by omega) (by omega) rfl (Nat.le_of_ble_eq_true rfl) rfl dX10_finish_79 (fun h79 p79 => ?_)
                  obtain ⟨⟨N79, nn79, hR79⟩, nfr79⟩ := p79
                  have hm__9 : h79 m = some (mo m (fu s 0 0)) := (nfr79 _ (by omega)).trans hm__5
                  have hn__9 : h79 (m + 2) = some (ai G 86 N79) := nn79
                  have hu__9 : h79 (m + 11) = some (ai G 64 S66) := (nfr79 _ (by omega)).trans hu__5
                  have hs5__9 : h79 (m + 5) = some (ai G 688 Ns) := (nfr79 _ (by omega)).trans hs5__5
                  have hb__9 : h79 (m + 6) = some (ai G 86 (cpF N 0 Nb 0 86)) := (nfr79 _ (by omega)).trans hb__5
                  have hl__9 : h79 (m + 7) = some (ai G 86 Nl) := (nfr79 _ (by omega)).trans hl__5
                  have fr__9 : ∀ q : Nat, (q ≠ m ∧ q ≠ m + 2 ∧ q ≠ m + 5 ∧ q ≠ m + 6 ∧ q ≠ m + 7 ∧ q ≠ m + 11) → h79 q = h q := fun q hq => (nfr79 q (by omega)).trans (fr__5 q hq)
                  refine g_goto k (tgt := 122) dX10_finish_82 (by decide) ?_
                  refine g_iinc k (lv2 := [(0, .ref m), (1, vi (((fnI it a (fnO it (φ, wgh φ 0 it, 0) a) c).2.2 : Int) + 1)), (2, vi (a : Int)), (3, vi ((a + 1 + c : Nat) : Int))]) rfl (by decide) rfl rfl dX10_finish_122 ?_
                  refine g_iinc k (lv2 := [(0, .ref m), (1, vi (((fnI it a (fnO it (φ, wgh φ 0 it, 0) a) c).2.2 : Int) + 1)), (2, vi (a : Int)), (3, vi (((a + 1 + c : Nat) : Int) + 1))]) rfl (by decide) rfl rfl dX10_finish_125 ?_
                  refine g_goto k (tgt := 34) dX10_finish_128 (by decide) ?_
                  have ef := fso_1 (a := a) (b := (a + 1 + c)) hF5 (by omega) (by omega) (z66.t (by omega))
                  have em : fnI it a (fnO it (φ, wgh φ 0 it, 0) a) (c + 1) = ((fnI it a (fnO it (φ, wgh φ 0 it, 0) a) c).1 ++ [(0, a, (a + 1 + c))], jnF (fnI it a (fnO it (φ, wgh φ 0 it, 0) a) c).2.1 it 0 a (a + 1 + c), (fnI it a (fnO it (φ, wgh φ 0 it, 0) a) c).2.2 + 1) := by rw [fnI, fn1, if_pos hix5, ef]
                  have hF7 := (FMq.o it).2 _ _ a (a + 1 + c) hF5 (by omega) (by omega) hix5
                  rw [ef] at hF7
                  have hc7 : (fnI it a (fnO it (φ, wgh φ 0 it, 0) a) (c + 1)).2.2 = (fnI it a (fnO it (φ, wgh φ 0 it, 0) a) c).2.2 + 1 := by rw [em]
                  rw [show ((fnI it a (fnO it (φ, wgh φ 0 it, 0) a) c).2.2 : Int) + 1 = ((fnI it a (fnO it (φ, wgh φ 0 it, 0) a) (c + 1)).2.2 : Int) by omega]
                  exact ih34 (c + 1) _ _ h79 hm__9 hn__9 hu__9 hs5__9 hb__9 hl__9 fr__9 (by omega) (by rw [em]; exact hR79) (by rw [em]; exact hF7) (by omega) (by omega)
              · skip
                refine g_goto k (tgt := 125) dX10_finish_55 (by decide) ?_
                refine g_iinc k (lv2 := [(0, .ref m), (1, vi ((fnI it a (fnO it (φ, wgh φ 0 it, 0) a) c).2.2 : Int)), (2, vi (a : Int)), (3, vi (((a + 1 + c : Nat) : Int) + 1))]) rfl (by decide) rfl rfl dX10_finish_125 ?_
                refine g_goto k (tgt := 34) dX10_finish_128 (by decide) ?_
                have em : fnI it a (fnO it (φ, wgh φ 0 it, 0) a) (c + 1) = (fnI it a (fnO it (φ, wgh φ 0 it, 0) a) c) := by rw [fnI, fn1, if_neg c52]
                rw [← em] at hR5 hF5 hc5 ⊢
                exact ih34 (c + 1) _ _ h34 hm__4 hn__4 hu__4 hs5__4 hb__4 hl__4 fr__4 (by omega) hR5 hF5 (by omega) (by omega)
        exact K34 _ 0 _ _ h22 hm__2 hn__2 hu__2 hs5__2 hb__2 hl__2 fr__2 (Nat.zero_le _) hR4 hF4 hc4 (Nat.lt_succ_self _)
  exact K22 _ 0 _ _ h15 hm__1 hn__1 hu__1 hs5__1 hb__1 hl__1 fr__1 (Nat.zero_le _) hR (FMq.w hS hG) (Nat.le_refl _) (Nat.lt_succ_self _)

