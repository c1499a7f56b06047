/-! the law's invariant, and a step of each method -/
theorem SF.keep {G : Gx} {h h' : Hp} {x : Nat} {it : Nat} {φ : Fs} {ps : List (Nat × Fs)} {im : Nat → Option (Nat × Fs)} {V : RV} {n : Nat} {T : Nat → Int} {ft : Nat} (hF : SF G h x it φ ps im V n T ft) (fr : ∀ q : Nat, x ≤ q → q ≤ x + 140 → h' q = h q) : SF G h' x it φ ps im V n T ft := ⟨(hF.1).keep (fun q g1 g2 => fr q (by omega) (by omega)), (hF.2.1).keep (fun q g1 g2 => fr q (by omega) (by omega)), (hF.2.2.1).keep (fun q g1 g2 => fr q (by omega) (by omega)), (hF.2.2.2.1).keep (fun q g1 g2 => fr q (by omega) (by omega)), (hF.2.2.2.2.1).keep (fun q g1 g2 => fr q (by omega) (by omega)), (hF.2.2.2.2.2.1).keep (fun q g1 g2 => fr q (by omega) (by omega)), (hF.2.2.2.2.2.2.1).keep (fun q g1 g2 => fr q (by omega) (by omega)), (hF.2.2.2.2.2.2.2.1).keep (fun q g1 g2 => fr q (by omega) (by omega)), (hF.2.2.2.2.2.2.2.2.1).keep (fun q g1 g2 => fr q (by omega) (by omega)), (hF.2.2.2.2.2.2.2.2.2.1).keep (fun q g1 g2 => fr q (by omega) (by omega)), (hF.2.2.2.2.2.2.2.2.2.2.1).keep (fun q g1 g2 => fr q (by omega) (by omega)), (hF.2.2.2.2.2.2.2.2.2.2.2.1).keep (fun q g1 g2 => fr q (by omega) (by omega)), (hF.2.2.2.2.2.2.2.2.2.2.2.2.1).keep (fun q g1 g2 => fr q (by omega) (by omega)), (hF.2.2.2.2.2.2.2.2.2.2.2.2.2).keep (fun q g1 g2 => fr q (by omega) (by omega))⟩
theorem MS.keep {G : Gx} {h h' : Hp} {m : Nat} {it : Nat} {φ : Fs} {ps : List (Nat × Fs)} {im : Nat → Option (Nat × Fs)} {V : RV} {n : Nat} {T : Nat → Int} {ft : Nat} (hM : MS G h m it φ ps im V n T ft) (fr : ∀ q : Nat, m ≤ q → q ≤ m + 17 → h' q = h q) : MS G h' m it φ ps im V n T ft := by
  obtain ⟨th, s, ⟨c0, c1, c2, c3, c4, c5, c6, c7, c8, c9, c10, c11, c12, c13, c14, c15, c16, c17⟩, hs, e⟩ := hM
  exact ⟨th, s, ⟨(fr _ (by omega) (by omega)).trans c0, (fr _ (by omega) (by omega)).trans c1, by rw [fr (m + 2) (by omega) (by omega)]; exact c2, by rw [fr (m + 3) (by omega) (by omega)]; exact c3, by rw [fr (m + 4) (by omega) (by omega)]; exact c4, by rw [fr (m + 5) (by omega) (by omega)]; exact c5, by rw [fr (m + 6) (by omega) (by omega)]; exact c6, by rw [fr (m + 7) (by omega) (by omega)]; exact c7, by rw [fr (m + 8) (by omega) (by omega)]; exact c8, by rw [fr (m + 9) (by omega) (by omega)]; exact c9, by rw [fr (m + 10) (by omega) (by omega)]; exact c10, by rw [fr (m + 11) (by omega) (by omega)]; exact c11, by rw [fr (m + 12) (by omega) (by omega)]; exact c12, by rw [fr (m + 13) (by omega) (by omega)]; exact c13, by rw [fr (m + 14) (by omega) (by omega)]; exact c14, by rw [fr (m + 15) (by omega) (by omega)]; exact c15, by rw [fr (m + 16) (by omega) (by omega)]; exact c16, by rw [fr (m + 17) (by omega) (by omega)]; exact c17⟩, hs, e⟩
theorem MS.ob {G : Gx} {h : Hp} {m : Nat} {it : Nat} {φ : Fs} {ps : List (Nat × Fs)} {im : Nat → Option (Nat × Fs)} {V : RV} {n : Nat} {T : Nat → Int} {ft : Nat} (hM : MS G h m it φ ps im V n T ft) : ∃ fs : List Value, h m = some (ob 10 fs) := by
  obtain ⟨th, s, ⟨c0, -⟩, -⟩ := hM
  exact ⟨_, c0⟩
def PsG (ps : List (Nat × Fs)) : Prop := ∀ i, i < ps.length → Good (ps.getD i (0, [])).2
def ImO (im : Nat → Option (Nat × Fs)) : Prop := ∀ k i ψ, k < 2 → im k = some (i, ψ) → Sm i ψ ∧ Good ψ
def Ivs (it : Nat) (φ : Fs) (ps : List (Nat × Fs)) (im : Nat → Option (Nat × Fs)) (V : RV) (n : Nat) (T : Nat → Int) (ft : Nat) : Prop := Sm it φ ∧ Good φ ∧ PsO ps ∧ PsG ps ∧ ImO im ∧ (0 ≤ V.1 ∧ V.1 ≤ 8) ∧ n ≤ 740 ∧ Byt T ∧ ft ≤ 4
def Inv (G : Gx) (h : Hp) (x : Nat) : Prop := ∃ (it : Nat) (φ : Fs) (ps : List (Nat × Fs)) (im : Nat → Option (Nat × Fs)) (V : RV) (n : Nat) (T : Nat → Int) (ft : Nat), SF G h x it φ ps im V n T ft ∧ MS G h (x + 141) it φ ps im V n T ft ∧ Ivs it φ ps im V n T ft
theorem Inv.ob {G : Gx} {h : Hp} {x : Nat} (hI : Inv G h x) : ∃ fs : List Value, h x = some (ob 9 fs) := by
  obtain ⟨it, φ, ps, im, V, n, T, ft, ⟨⟨sd, o1⟩, -⟩, -⟩ := hI
  exact ⟨_, o1⟩
def After (G : Gx) (h h2 : Hp) (x : Nat) (z1 z2 : Int) : Prop := z1 = z2 ∧ Inv G h2 x ∧ ∀ q : Nat, (q < x ∨ x + 158 < q) → h2 q = h q
def Step (G : Gx) (x nx : Nat) (y9 : MethodName) (c9 : ByteArray) (nL9 : Nat) (lev9 : Nat) (y10 : MethodName) (c10 : ByteArray) (nL10 : Nat) (lev10 : Nat) (ret : Option FieldType) (As : List Value) (h : Hp) : Prop :=
  ∃ P1 : Int → Hp → Prop, Con G y9 c9 nL9 ret lev9 0 0 (.ref x :: As) h nx (PI P1) ∧ ∀ z1 h1, P1 z1 h1 → (∃ fs : List Value, h1 (x + 141) = some (ob 10 fs)) ∧ ∃ P2 : Int → Hp → Prop, Con G y10 c10 nL10 ret lev10 0 0 (.ref (x + 141) :: As) h1 nx (PI P2) ∧ ∀ z2 h2, P2 z2 h2 → After G h h2 x z1 z2
theorem after {G : Gx} {h h1 h2 : Hp} {x : Nat} {it : Nat} {φ : Fs} {ps : List (Nat × Fs)} {im : Nat → Option (Nat × Fs)} {V : RV} {n : Nat} {T : Nat → Int} {ft : Nat} {z1 z2 : Int} (e : z1 = z2) (F1 : SF G h1 x it φ ps im V n T ft) (f1 : ∀ q : Nat, (q < x ∨ x + 140 < q) → h1 q = h q) (M2 : MT G h2 (x + 141) 0 it φ ps im V n T ft) (f2 : ∀ q : Nat, (q < x + 141 ∨ x + 141 + 17 < q) → h2 q = h1 q) (hV : Ivs it φ ps im V n T ft) : After G h h2 x z1 z2 :=
  ⟨e, ⟨_, _, _, _, _, _, _, _, F1.keep (fun q g1 g2 => f2 q (by omega)), ⟨0, M2⟩, hV⟩, fun q hq => (f2 q (by omega)).trans (f1 q (by omega))⟩
theorem two {z1 z2 v v2 : Int} {C : Prop} (h1 : (C → z1 = v) ∧ (¬ C → z1 = v2)) (h2 : (C → z2 = v) ∧ (¬ C → z2 = v2)) : z1 = z2 := by
  by_cases c : C
  · exact (h1.1 c).trans (h2.1 c).symm
  · exact (h1.2 c).trans (h2.2 c).symm
theorem bz_e {z1 z2 : Int} {C : Prop} (h1 : bz C z1) (h2 : bz C z2) : z1 = z2 := by
  rcases h1 with ⟨a, b⟩ | ⟨a, b⟩
  · rcases h2 with ⟨a2, b2⟩ | ⟨a2, b2⟩
    · exact b.trans b2.symm
    · exact absurd a a2
  · rcases h2 with ⟨a2, b2⟩ | ⟨a2, b2⟩
    · exact absurd a2 a
    · exact b.trans b2.symm
theorem SQ {B : Nat → Int} {Q : Nat → Nat} {it : Nat} {p : Int} (h : Srt B Q it) (c : hasI it p) : ∃ j, j < it ∧ (Q j : Int) = p := by
  obtain ⟨u, eu, hu⟩ := nat_of c
  obtain ⟨j, hj, ej⟩ := Srt_sur h hu
  exact ⟨j, hj, by rw [ej, eu]⟩
theorem YN {it : Nat} {φ : Fs} (hS : Sm it φ) (hG : Good φ) {kx p p2 : Int} (c : nmd it φ kx p p2) : YS φ kx.toNat p.toNat p2.toNat (ylN φ it kx.toNat p.toNat p2.toNat 4 0) := by
  obtain ⟨c1, ⟨c2, c3, c4⟩, c5⟩ := c
  obtain ⟨u, eu, hu⟩ := nat_of c2
  obtain ⟨v, ev, hv⟩ := nat_of c3
  subst eu
  subst ev
  rw [Int.toNat_natCast, Int.toNat_natCast]
  exact ylN_Y hS hG (by omega) hu hv (by omega)
theorem sp_fault {G : Gx} {h : Hp} {x nx : Nat} (hI : Inv G h x) : Step G x nx yX9_fault cX9_fault 1 1 yX10_fault cX10_fault 1 1 (some .int) [] h := by
  obtain ⟨it, φ, ps, im, V, n, T, ft, hF, hM, hV⟩ := hI
  obtain ⟨hS, hG, hps, hpg, him, hV8, hn7, hBy, hft⟩ := id hV
  refine ⟨_, c_X9_fault hF , fun z1 h1 q1 => ?_⟩
  obtain ⟨e1, F1, f1⟩ := q1
  have M1 : MS G h1 (x + 141) it φ ps im V n T ft := hM.keep (fun q g1 g2 => f1 q (by omega))
  refine ⟨M1.ob, _, c_X10_fault M1 , fun z2 h2 q2 => ?_⟩
  obtain ⟨e2, M2, f2⟩ := q2
  exact after (e1.trans e2.symm) F1 f1 M2 f2 hV
theorem sp_now {G : Gx} {h : Hp} {x nx : Nat} (hI : Inv G h x) {p : Int} (rp : -2147483648 ≤ p ∧ p ≤ 2147483647) : Step G x nx yX9_now cX9_now 2 5 yX10_now cX10_now 2 5 (some .int) [vi p] h := by
  obtain ⟨it, φ, ps, im, V, n, T, ft, hF, hM, hV⟩ := hI
  obtain ⟨hS, hG, hps, hpg, him, hV8, hn7, hBy, hft⟩ := id hV
  obtain ⟨L, hL⟩ := isL_ex hS hG
  refine ⟨_, c_X9_now hF hS hL rp, fun z1 h1 q1 => ?_⟩
  obtain ⟨e1, F1, f1⟩ := q1
  have M1 : MS G h1 (x + 141) it φ ps im V n T ft := hM.keep (fun q g1 g2 => f1 q (by omega))
  refine ⟨M1.ob, _, c_X10_now M1 hS hL rp, fun z2 h2 q2 => ?_⟩
  obtain ⟨e2, M2, f2⟩ := q2
  exact after (e1.trans e2.symm) F1 f1 M2 f2 hV
theorem sp_refuted {G : Gx} {h : Hp} {x nx : Nat} (hI : Inv G h x) {p : Int} (rp : -2147483648 ≤ p ∧ p ≤ 2147483647) : Step G x nx yX9_refuted cX9_refuted 2 1 yX10_refuted cX10_refuted 2 1 (some .int) [vi p] h := by
  obtain ⟨it, φ, ps, im, V, n, T, ft, hF, hM, hV⟩ := hI
  obtain ⟨hS, hG, hps, hpg, him, hV8, hn7, hBy, hft⟩ := id hV
  refine ⟨_, c_X9_refuted hF hV8 rp, fun z1 h1 q1 => ?_⟩
  obtain ⟨e1, F1, f1⟩ := q1
  have M1 : MS G h1 (x + 141) it φ ps im V n T ft := hM.keep (fun q g1 g2 => f1 q (by omega))
  refine ⟨M1.ob, _, c_X10_refuted M1 hV8 rp, fun z2 h2 q2 => ?_⟩
  obtain ⟨e2, M2, f2⟩ := q2
  exact after (e1.trans e2.symm) F1 f1 M2 f2 hV
theorem sp_ring {G : Gx} {h : Hp} {x nx : Nat} (hI : Inv G h x) {p : Int} (rp : -2147483648 ≤ p ∧ p ≤ 2147483647) : Step G x nx yX9_ring cX9_ring 2 1 yX10_ring cX10_ring 2 2 (some .int) [vi p] h := by
  obtain ⟨it, φ, ps, im, V, n, T, ft, hF, hM, hV⟩ := hI
  obtain ⟨hS, hG, hps, hpg, him, hV8, hn7, hBy, hft⟩ := id hV
  refine ⟨_, c_X9_ring hF hV8 rp, fun z1 h1 q1 => ?_⟩
  obtain ⟨e1, F1, f1⟩ := q1
  have M1 : MS G h1 (x + 141) it φ ps im V n T ft := hM.keep (fun q g1 g2 => f1 q (by omega))
  refine ⟨M1.ob, _, c_X10_ring M1 hV8 rp, fun z2 h2 q2 => ?_⟩
  obtain ⟨e2, M2, f2⟩ := q2
  exact after (e1.trans e2.symm) F1 f1 M2 f2 hV
theorem sp_begin {G : Gx} {h : Hp} {x nx : Nat} (hI : Inv G h x) {p p2 : Int} (rp : -2147483648 ≤ p ∧ p ≤ 2147483647) (rp2 : -2147483648 ≤ p2 ∧ p2 ≤ 2147483647) : Step G x nx yX9_begin cX9_begin 3 5 yX10_begin cX10_begin 3 6 (some .int) [vi p, vi p2] h := by
  obtain ⟨it, φ, ps, im, V, n, T, ft, hF, hM, hV⟩ := hI
  obtain ⟨hS, hG, hps, hpg, him, hV8, hn7, hBy, hft⟩ := id hV
  obtain ⟨L, hL⟩ := isL_ex hS hG
  refine ⟨_, c_X9_begin hF hS rp rp2, fun z1 h1 q1 => ?_⟩
  obtain ⟨e1, F1, f1⟩ := q1
  have M1 : MS G h1 (x + 141) it φ ps im V n T ft := hM.keep (fun q g1 g2 => f1 q (by omega))
  refine ⟨M1.ob, _, c_X10_begin M1 hS hL rp rp2, fun z2 h2 q2 => ?_⟩
  obtain ⟨e2, M2, f2⟩ := q2
  exact after (two e1 e2) F1 f1 M2 f2 hV
theorem sp_gap {G : Gx} {h : Hp} {x nx : Nat} (hI : Inv G h x) {p p2 p3 p4 : Int} (rp : -2147483648 ≤ p ∧ p ≤ 2147483647) (rp2 : -2147483648 ≤ p2 ∧ p2 ≤ 2147483647) (rp3 : -2147483648 ≤ p3 ∧ p3 ≤ 2147483647) (rp4 : -2147483648 ≤ p4 ∧ p4 ≤ 2147483647) : Step G x nx yX9_gap cX9_gap 6 5 yX10_gap cX10_gap 6 6 (some .int) [vi p, vi p2, vi p3, vi p4] h := by
  obtain ⟨it, φ, ps, im, V, n, T, ft, hF, hM, hV⟩ := hI
  obtain ⟨hS, hG, hps, hpg, him, hV8, hn7, hBy, hft⟩ := id hV
  obtain ⟨L, hL⟩ := isL_ex hS hG
  refine ⟨_, c_X9_gap hF hS rp rp2 rp3 rp4, fun z1 h1 q1 => ?_⟩
  obtain ⟨e1, F1, f1⟩ := q1
  have M1 : MS G h1 (x + 141) it φ ps im V n T ft := hM.keep (fun q g1 g2 => f1 q (by omega))
  refine ⟨M1.ob, _, c_X10_gap M1 hS hL rp rp2 rp3 rp4, fun z2 h2 q2 => ?_⟩
  obtain ⟨e2, M2, f2⟩ := q2
  exact after (two e1 e2) F1 f1 M2 f2 hV
theorem sp_tight {G : Gx} {h : Hp} {x nx : Nat} (hI : Inv G h x) {p : Int} (rp : -2147483648 ≤ p ∧ p ≤ 2147483647) : Step G x nx yX9_tight cX9_tight 6 5 yX10_tight cX10_tight 6 6 (some .int) [vi p] h := by
  obtain ⟨it, φ, ps, im, V, n, T, ft, hF, hM, hV⟩ := hI
  obtain ⟨hS, hG, hps, hpg, him, hV8, hn7, hBy, hft⟩ := id hV
  obtain ⟨L, hL⟩ := isL_ex hS hG
  refine ⟨_, c_X9_tight hF hS rp, fun z1 h1 q1 => ?_⟩
  obtain ⟨e1, F1, f1⟩ := q1
  have M1 : MS G h1 (x + 141) it φ ps im V n T ft := hM.keep (fun q g1 g2 => f1 q (by omega))
  refine ⟨M1.ob, _, c_X10_tight M1 hS hL rp, fun z2 h2 q2 => ?_⟩
  obtain ⟨e2, M2, f2⟩ := q2
  exact after (two e1 e2) F1 f1 M2 f2 hV
theorem sp_may {G : Gx} {h : Hp} {x nx : Nat} (hI : Inv G h x) {p p2 : Int} (rp : -2147483648 ≤ p ∧ p ≤ 2147483647) (rp2 : -2147483648 ≤ p2 ∧ p2 ≤ 2147483647) : Step G x nx yX9_may cX9_may 3 5 yX10_may cX10_may 3 7 (some .int) [vi p, vi p2] h := by
  obtain ⟨it, φ, ps, im, V, n, T, ft, hF, hM, hV⟩ := hI
  obtain ⟨hS, hG, hps, hpg, him, hV8, hn7, hBy, hft⟩ := id hV
  refine ⟨_, c_X9_may hF hS rp rp2, fun z1 h1 q1 => ?_⟩
  obtain ⟨e1, F1, f1⟩ := q1
  have M1 : MS G h1 (x + 141) it φ ps im V n T ft := hM.keep (fun q g1 g2 => f1 q (by omega))
  refine ⟨M1.ob, _, c_X10_may M1 hS hG rp rp2, fun z2 h2 q2 => ?_⟩
  obtain ⟨e2, M2, f2⟩ := q2
  exact after (two e1 e2) F1 f1 M2 f2 hV
theorem sp_ways {G : Gx} {h : Hp} {x nx : Nat} (hI : Inv G h x) : Step G x nx yX9_ways cX9_ways 1 64 yX10_ways cX10_ways 1 80 (some .int) [] h := by
  obtain ⟨it, φ, ps, im, V, n, T, ft, hF, hM, hV⟩ := hI
  obtain ⟨hS, hG, hps, hpg, him, hV8, hn7, hBy, hft⟩ := id hV
  refine ⟨_, c_X9_ways hF hS GM_o ⟨EF φ 0, wgh_g hS hG⟩, fun z1 h1 q1 => ?_⟩
  obtain ⟨e1, F1, f1⟩ := q1
  have M1 : MS G h1 (x + 141) it φ ps im V n T ft := hM.keep (fun q g1 g2 => f1 q (by omega))
  refine ⟨M1.ob, _, c_X10_ways M1 hS hG, fun z2 h2 q2 => ?_⟩
  obtain ⟨e2, M2, f2⟩ := q2
  exact after (e1.trans e2.symm) F1 f1 M2 f2 hV
theorem sp_idle {G : Gx} {h : Hp} {x nx : Nat} (hI : Inv G h x) : Step G x nx yX9_idle cX9_idle 3 5 yX10_idle cX10_idle 3 7 (some .int) [] h := by
  obtain ⟨it, φ, ps, im, V, n, T, ft, hF, hM, hV⟩ := hI
  obtain ⟨hS, hG, hps, hpg, him, hV8, hn7, hBy, hft⟩ := id hV
  refine ⟨_, c_X9_idle hF hS, fun z1 h1 q1 => ?_⟩
  obtain ⟨e1, F1, f1⟩ := q1
  have M1 : MS G h1 (x + 141) it φ ps im V n T ft := hM.keep (fun q g1 g2 => f1 q (by omega))
  refine ⟨M1.ob, _, c_X10_idle M1 hS hG, fun z2 h2 q2 => ?_⟩
  obtain ⟨e2, M2, f2⟩ := q2
  exact after (e1.trans e2.symm) F1 f1 M2 f2 hV
theorem sp_late {G : Gx} {h : Hp} {x nx : Nat} (hI : Inv G h x) {p p2 p3 : Int} (rp : -2147483648 ≤ p ∧ p ≤ 2147483647) (rp2 : -2147483648 ≤ p2 ∧ p2 ≤ 2147483647) (rp3 : -2147483648 ≤ p3 ∧ p3 ≤ 2147483647) : Step G x nx yX9_late cX9_late 6 5 yX10_late cX10_late 6 6 (some .int) [vi p, vi p2, vi p3] h := by
  obtain ⟨it, φ, ps, im, V, n, T, ft, hF, hM, hV⟩ := hI
  obtain ⟨hS, hG, hps, hpg, him, hV8, hn7, hBy, hft⟩ := id hV
  obtain ⟨L, hL⟩ := isL_ex hS hG
  refine ⟨_, c_X9_late hF hS rp rp2 rp3, fun z1 h1 q1 => ?_⟩
  obtain ⟨e1, F1, f1⟩ := q1
  have M1 : MS G h1 (x + 141) it φ ps im V n T ft := hM.keep (fun q g1 g2 => f1 q (by omega))
  refine ⟨M1.ob, _, c_X10_late M1 hS hL rp rp2 rp3, fun z2 h2 q2 => ?_⟩
  obtain ⟨e2, M2, f2⟩ := q2
  exact after (two e1 e2) F1 f1 M2 f2 hV
theorem sp_ahead {G : Gx} {h : Hp} {x nx : Nat} (hI : Inv G h x) {p p2 : Int} (rp : -2147483648 ≤ p ∧ p ≤ 2147483647) (rp2 : -2147483648 ≤ p2 ∧ p2 ≤ 2147483647) : Step G x nx yX9_ahead cX9_ahead 3 5 yX10_ahead cX10_ahead 3 6 (some .int) [vi p, vi p2] h := by
  obtain ⟨it, φ, ps, im, V, n, T, ft, hF, hM, hV⟩ := hI
  obtain ⟨hS, hG, hps, hpg, him, hV8, hn7, hBy, hft⟩ := id hV
  obtain ⟨L, hL⟩ := isL_ex hS hG
  refine ⟨_, c_X9_ahead hF hS hL rp rp2, fun z1 h1 q1 => ?_⟩
  obtain ⟨e1, F1, f1⟩ := q1
  have M1 : MS G h1 (x + 141) it φ ps im V n T ft := hM.keep (fun q g1 g2 => f1 q (by omega))
  refine ⟨M1.ob, _, c_X10_ahead M1 hS hL rp rp2, fun z2 h2 q2 => ?_⟩
  obtain ⟨e2, M2, f2⟩ := q2
  exact after (by by_cases c : hasI it p ∧ hasI it p2; (exact bz_e (e1.1 c) (e2.1 c)); exact (e1.2 c).trans (e2.2 c).symm) F1 f1 M2 f2 hV
theorem sp_chain {G : Gx} {h : Hp} {x nx : Nat} (hI : Inv G h x) {p : Int} (rp : -2147483648 ≤ p ∧ p ≤ 2147483647) : Step G x nx yX9_chain cX9_chain 2 6 yX10_chain cX10_chain 2 7 (some .int) [vi p] h := by
  obtain ⟨it, φ, ps, im, V, n, T, ft, hF, hM, hV⟩ := hI
  obtain ⟨hS, hG, hps, hpg, him, hV8, hn7, hBy, hft⟩ := id hV
  obtain ⟨L, hL⟩ := isL_ex hS hG
  refine ⟨_, c_X9_chain hF hS hL rp, fun z1 h1 q1 => ?_⟩
  obtain ⟨e1, F1, f1⟩ := q1
  have M1 : MS G h1 (x + 141) it φ ps im V n T ft := hM.keep (fun q g1 g2 => f1 q (by omega))
  refine ⟨M1.ob, _, c_X10_chain M1 hS hL rp, fun z2 h2 q2 => ?_⟩
  obtain ⟨e2, M2, f2⟩ := q2
  exact after (by by_cases c0 : p = 0; (exact (e1.1 c0).trans (e2.1 c0).symm); by_cases c1 : p = 1; (exact (e1.2.1 c1).trans (e2.2.1 c1).symm); exact (e1.2.2 (by omega)).trans (e2.2.2 (by omega)).symm) F1 f1 M2 f2 hV
theorem sp_crowd {G : Gx} {h : Hp} {x nx : Nat} (hI : Inv G h x) {p : Int} (rp : -2147483648 ≤ p ∧ p ≤ 2147483647) : Step G x nx yX9_crowd cX9_crowd 2 6 yX10_crowd cX10_crowd 2 7 (some .int) [vi p] h := by
  obtain ⟨it, φ, ps, im, V, n, T, ft, hF, hM, hV⟩ := hI
  obtain ⟨hS, hG, hps, hpg, him, hV8, hn7, hBy, hft⟩ := id hV
  obtain ⟨L, hL⟩ := isL_ex hS hG
  refine ⟨_, c_X9_crowd hF hS hL rp, fun z1 h1 q1 => ?_⟩
  obtain ⟨e1, F1, f1⟩ := q1
  have M1 : MS G h1 (x + 141) it φ ps im V n T ft := hM.keep (fun q g1 g2 => f1 q (by omega))
  refine ⟨M1.ob, _, c_X10_crowd M1 hS hL rp, fun z2 h2 q2 => ?_⟩
  obtain ⟨e2, M2, f2⟩ := q2
  exact after (by by_cases c0 : p = 0; (exact (e1.1 c0).trans (e2.1 c0).symm); by_cases c1 : p = 1; (exact (e1.2.1 c1).trans (e2.2.1 c1).symm); exact (e1.2.2 (by omega)).trans (e2.2.2 (by omega)).symm) F1 f1 M2 f2 hV
theorem sp_shapes {G : Gx} {h : Hp} {x nx : Nat} (hI : Inv G h x) {p : Int} (rp : -2147483648 ≤ p ∧ p ≤ 2147483647) : Step G x nx yX9_shapes cX9_shapes 2 4 yX10_shapes cX10_shapes 2 14 (some .int) [vi p] h := by
  obtain ⟨it, φ, ps, im, V, n, T, ft, hF, hM, hV⟩ := hI
  obtain ⟨hS, hG, hps, hpg, him, hV8, hn7, hBy, hft⟩ := id hV
  refine ⟨_, c_X9_shapes hF rp, fun z1 h1 q1 => ?_⟩
  obtain ⟨e1, F1, f1⟩ := q1
  have M1 : MS G h1 (x + 141) it φ ps im V n T ft := hM.keep (fun q g1 g2 => f1 q (by omega))
  refine ⟨M1.ob, _, c_X10_shapes M1 rp, fun z2 h2 q2 => ?_⟩
  obtain ⟨e2, M2, f2⟩ := q2
  exact after (two e1 e2) F1 f1 M2 f2 hV
theorem sp_rank {G : Gx} {h : Hp} {x nx : Nat} (hI : Inv G h x) : Step G x nx yX9_rank cX9_rank 1 5 yX10_rank cX10_rank 5 14 (some .int) [] h := by
  obtain ⟨it, φ, ps, im, V, n, T, ft, hF, hM, hV⟩ := hI
  obtain ⟨hS, hG, hps, hpg, him, hV8, hn7, hBy, hft⟩ := id hV
  obtain ⟨L, hL⟩ := isL_ex hS hG
  refine ⟨_, c_X9_rank hF hS hL, fun z1 h1 q1 => ?_⟩
  obtain ⟨⟨P, hP, e1⟩, F1, f1⟩ := q1
  have M1 : MS G h1 (x + 141) it φ ps im V n T ft := hM.keep (fun q g1 g2 => f1 q (by omega))
  refine ⟨M1.ob, _, c_X10_rank M1 hS hL hP, fun z2 h2 q2 => ?_⟩
  obtain ⟨e2, M2, f2⟩ := q2
  exact after (e1.trans e2.symm) F1 f1 M2 f2 hV
theorem sp_yields {G : Gx} {h : Hp} {x nx : Nat} (hI : Inv G h x) {kx p p2 : Int} (rkx : -2147483648 ≤ kx ∧ kx ≤ 2147483647) (rp : -2147483648 ≤ p ∧ p ≤ 2147483647) (rp2 : -2147483648 ≤ p2 ∧ p2 ≤ 2147483647) : Step G x nx yX9_yields cX9_yields 6 13 yX10_yields cX10_yields 7 7 (some .int) [vi kx, vi p, vi p2] h := by
  obtain ⟨it, φ, ps, im, V, n, T, ft, hF, hM, hV⟩ := hI
  obtain ⟨hS, hG, hps, hpg, him, hV8, hn7, hBy, hft⟩ := id hV
  have YY : nmd it φ kx p p2 → YS φ kx.toNat p.toNat p2.toNat (ylN φ it kx.toNat p.toNat p2.toNat 4 0) := fun c => YN hS hG c
  refine ⟨_, c_X9_yields hF hS rkx rp rp2, fun z1 h1 q1 => ?_⟩
  obtain ⟨e1, F1, f1⟩ := q1
  have M1 : MS G h1 (x + 141) it φ ps im V n T ft := hM.keep (fun q g1 g2 => f1 q (by omega))
  refine ⟨M1.ob, _, c_X10_yields M1 hS rkx rp rp2, fun z2 h2 q2 => ?_⟩
  obtain ⟨e2, M2, f2⟩ := q2
  exact after (by by_cases c : nmd it φ kx p p2; (rw [e1.1 c]; exact YS_u (YY c) (e2.1 c)); exact (e1.2 c).trans (e2.2 c).symm) F1 f1 M2 f2 hV
theorem sp_shape {G : Gx} {h : Hp} {x nx : Nat} (hI : Inv G h x) {p : Int} (rp : -2147483648 ≤ p ∧ p ≤ 2147483647) : Step G x nx yX9_shape cX9_shape 2 5 yX10_shape cX10_shape 2 7 (some .int) [vi p] h := by
  obtain ⟨it, φ, ps, im, V, n, T, ft, hF, hM, hV⟩ := hI
  obtain ⟨hS, hG, hps, hpg, him, hV8, hn7, hBy, hft⟩ := id hV
  obtain ⟨L, hL⟩ := isL_ex hS hG
  refine ⟨_, c_X9_shape hF hS hL rp, fun z1 h1 q1 => ?_⟩
  obtain ⟨e1, F1, f1⟩ := q1
  have M1 : MS G h1 (x + 141) it φ ps im V n T ft := hM.keep (fun q g1 g2 => f1 q (by omega))
  obtain ⟨P, hP⟩ : ∃ P : Nat → Nat, hasI it p → Std P (cah (bgn φ it L) L it) it ∧ z1 = (P p.toNat : Nat) := by
    by_cases c : hasI it p
    · obtain ⟨P, g1, g2⟩ := e1.2 c; exact ⟨P, fun _ => ⟨g1, g2⟩⟩
    · exact ⟨fun _ => 0, fun c2 => absurd c2 c⟩
  refine ⟨M1.ob, _, c_X10_shape M1 hS hL rp (P := P) (fun c => (hP c).1), fun z2 h2 q2 => ?_⟩
  obtain ⟨e2, M2, f2⟩ := q2
  exact after (by by_cases c : hasI it p; (exact (hP c).2.trans (e2.2 c).symm); exact (e1.1 c).trans (e2.1 c).symm) F1 f1 M2 f2 hV
theorem sp_room {G : Gx} {h : Hp} {x nx : Nat} (hI : Inv G h x) {p : Int} (rp : -2147483648 ≤ p ∧ p ≤ 2147483647) : Step G x nx yX9_room cX9_room 2 5 yX10_room cX10_room 3 7 (some .int) [vi p] h := by
  obtain ⟨it, φ, ps, im, V, n, T, ft, hF, hM, hV⟩ := hI
  obtain ⟨hS, hG, hps, hpg, him, hV8, hn7, hBy, hft⟩ := id hV
  obtain ⟨L, hL⟩ := isL_ex hS hG
  refine ⟨_, c_X9_room hF hS hL rp, fun z1 h1 q1 => ?_⟩
  obtain ⟨e1, F1, f1⟩ := q1
  have M1 : MS G h1 (x + 141) it φ ps im V n T ft := hM.keep (fun q g1 g2 => f1 q (by omega))
  obtain ⟨Q, hQ⟩ : ∃ Q : Nat → Nat, (p = -1 ∨ hasI it p) → Srt (bgn φ it L) Q it ∧ (p = -1 → z1 = (rmN (bgn φ it L) L Q it : Nat)) ∧ ∀ j, j < it → (Q j : Int) = p → z1 = (rmA (bgn φ it L) L Q j : Nat) := by
    by_cases c : p = -1 ∨ hasI it p
    · obtain ⟨Q, g⟩ := e1.2 c; exact ⟨Q, fun _ => g⟩
    · exact ⟨fun _ => 0, fun c2 => absurd c2 c⟩
  refine ⟨M1.ob, _, c_X10_room M1 hS hL rp (Q := Q) (fun c => (hQ c).1), fun z2 h2 q2 => ?_⟩
  obtain ⟨e2, M2, f2⟩ := q2
  exact after (by
    by_cases c : p = -1 ∨ hasI it p
    · obtain ⟨g1, g2, g3⟩ := hQ c
      obtain ⟨k2, k3⟩ := e2.2 c
      rcases c with c | c
      · exact (g2 c).trans (k2 c).symm
      · obtain ⟨j, hj, ej⟩ := SQ g1 c
        exact (g3 j hj ej).trans (k3 j hj ej).symm
    · exact (e1.1 c).trans (e2.1 c).symm) F1 f1 M2 f2 hV
theorem sp_about {G : Gx} {h : Hp} {x nx : Nat} (hI : Inv G h x) {p p2 : Int} (rp : -2147483648 ≤ p ∧ p ≤ 2147483647) (rp2 : -2147483648 ≤ p2 ∧ p2 ≤ 2147483647) : Step G x nx yX9_about cX9_about 3 3 yX10_about cX10_about 3 4 (some .int) [vi p, vi p2] h := by
  obtain ⟨it, φ, ps, im, V, n, T, ft, hF, hM, hV⟩ := hI
  obtain ⟨hS, hG, hps, hpg, him, hV8, hn7, hBy, hft⟩ := id hV
  refine ⟨_, c_X9_about hF hS rp rp2, fun z1 h1 q1 => ?_⟩
  obtain ⟨h1e, e1⟩ := q1
  subst h1e
  have M1 : MS G h1 (x + 141) it φ ps im V n T ft := hM
  refine ⟨M1.ob, _, c_X10_about M1 hS rp rp2, fun z2 h2 q2 => ?_⟩
  obtain ⟨e2, M2, f2⟩ := q2
  exact after (two e1 e2) hF (fun q _ => rfl) M2 f2 hV
