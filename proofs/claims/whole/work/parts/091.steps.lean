/-! steps of the methods that change the state -/
theorem pmem {P : Nat × Fs → Prop} : ∀ {ps : List (Nat × Fs)}, (∀ i, i < ps.length → P (ps.getD i (0, []))) ↔ ∀ y ∈ ps, P y
  | [] => ⟨fun _ y hy => (nomatch hy), fun _ i hi => absurd hi (Nat.not_lt_zero i)⟩
  | a :: r => by
    constructor
    · intro h y hy
      rcases List.mem_cons.mp hy with rfl | hy
      · exact h 0 (Nat.succ_pos _)
      · exact (pmem (ps := r)).mp (fun i hi => h (i + 1) (Nat.succ_lt_succ hi)) y hy
    · intro h i hi
      cases i with
      | zero => exact h a List.mem_cons_self
      | succ i => exact (pmem (ps := r)).mpr (fun y hy => h y (List.mem_cons_of_mem _ hy)) i (Nat.lt_of_succ_lt_succ hi)
theorem psh_m {ps : List (Nat × Fs)} {x y : Nat × Fs} (hy : y ∈ psh ps x) : y ∈ ps ∨ y = x := by
  unfold psh at hy
  rcases List.mem_append.mp hy with h | h
  · split at h
    · cases ps with
      | nil => exact nomatch h
      | cons a r => exact Or.inl (List.mem_cons_of_mem _ h)
    · exact Or.inl h
  · exact Or.inr (List.mem_singleton.mp h)
theorem psh_l {ps : List (Nat × Fs)} {x : Nat × Fs} (h : ps.length ≤ 8) : (psh ps x).length ≤ 8 := by
  unfold psh
  split
  · rename_i e
    cases ps with
    | nil => exact absurd e (by decide)
    | cons a r => rw [List.length_append]; simp only [List.length_cons, List.tail_cons, List.length_nil] at *; omega
  · rw [List.length_append]; simp only [List.length_cons, List.length_nil] at *; omega
theorem PsO_psh {ps : List (Nat × Fs)} {it : Nat} {φ : Fs} (h : PsO ps) (hS : Sm it φ) : PsO (psh ps (it, φ)) := ⟨psh_l h.1, (pmem (P := fun y => Sm y.1 y.2)).mpr (fun y hy => (psh_m hy).elim (fun g => (pmem (P := fun y => Sm y.1 y.2)).mp h.2 y g) (fun g => by rw [g]; exact hS))⟩
theorem PsG_psh {ps : List (Nat × Fs)} {it : Nat} {φ : Fs} (h : PsG ps) (hS : Good φ) : PsG (psh ps (it, φ)) := (pmem (P := fun y => Good y.2)).mpr (fun y hy => (psh_m hy).elim (fun g => (pmem (P := fun y => Good y.2)).mp h y g) (fun g => by rw [g]; exact hS))
theorem dl_m : ∀ {ps : List (Nat × Fs)} {y : Nat × Fs}, y ∈ ps.dropLast → y ∈ ps
  | [], _, h => nomatch h
  | [_], _, h => nomatch h
  | a :: b :: r, y, h => by
    rcases List.mem_cons.mp (show y ∈ a :: (b :: r).dropLast from h) with rfl | h
    · exact List.mem_cons_self
    · exact List.mem_cons_of_mem _ (dl_m h)
theorem gl_m : ∀ {ps : List (Nat × Fs)} (d : Nat × Fs), ps.length ≠ 0 → ps.getLastD d ∈ ps
  | [], _, h => absurd rfl h
  | [a], _, _ => List.mem_cons_self
  | a :: b :: r, d, _ => List.mem_cons_of_mem _ (gl_m (ps := b :: r) a (by rw [List.length_cons]; omega))
theorem ivP {it i2 : Nat} {φ φ2 : Fs} {ps : List (Nat × Fs)} {im : Nat → Option (Nat × Fs)} {V : RV} {n : Nat} {T : Nat → Int} {ft : Nat} (hV : Ivs it φ ps im V n T ft) (h1 : Sm i2 φ2) (h2 : Good φ2) : Ivs i2 φ2 (psh ps (it, φ)) im V n T ft := ⟨h1, h2, PsO_psh hV.2.2.1 hV.1, PsG_psh hV.2.2.2.1 hV.2.1, hV.2.2.2.2⟩
theorem ivA {it i2 : Nat} {φ φ2 : Fs} {ps : List (Nat × Fs)} {im : Nat → Option (Nat × Fs)} {V : RV} {n : Nat} {T : Nat → Int} {ft : Nat} (hV : Ivs it φ ps im V n T ft) (h1 : Sm i2 φ2) (h2 : Good φ2) : Ivs i2 φ2 ps im V n T ft := ⟨h1, h2, hV.2.2⟩
theorem ivR {it i2 : Nat} {φ φ2 : Fs} {ps : List (Nat × Fs)} {im : Nat → Option (Nat × Fs)} {V : RV} {n : Nat} {T : Nat → Int} {ft : Nat} (hV : Ivs it φ ps im V n T ft) (h1 : Sm i2 φ2) (h2 : Good φ2) : Ivs i2 φ2 [] im V n T ft := ⟨h1, h2, ⟨Nat.zero_le 8, fun i hi => absurd hi (Nat.not_lt_zero i)⟩, fun i hi => absurd hi (Nat.not_lt_zero i), hV.2.2.2.2⟩
theorem ivV {it : Nat} {φ : Fs} {ps : List (Nat × Fs)} {im : Nat → Option (Nat × Fs)} {V V2 : RV} {n : Nat} {T : Nat → Int} {ft : Nat} (hV : Ivs it φ ps im V n T ft) (h1 : 0 ≤ V2.1 ∧ V2.1 ≤ 8) : Ivs it φ ps im V2 n T ft := ⟨hV.1, hV.2.1, hV.2.2.1, hV.2.2.2.1, hV.2.2.2.2.1, h1, hV.2.2.2.2.2.2⟩
theorem skV_8 {φ : Fs} {w it k x y : Nat} {V : RV} (h8 : it ≤ 8) (hx : x < it) (hy : y < it) (hV : 0 ≤ V.1 ∧ V.1 ≤ 8) : 0 ≤ (skV φ w it k x y V).1 ∧ (skV φ w it k x y V).1 ≤ 8 := by
  by_cases c : rfd φ w it k x y
  · have h1 := skN_hit hx hy c
    rw [skV, if_pos (show 0 < (skN φ w it k x y).1 from c)]
    show 0 ≤ ((skN φ w it k x y).1 : Int) + 1 ∧ ((skN φ w it k x y).1 : Int) + 1 ≤ 8
    have h2 := h1.2.1
    omega
  · rw [skV_n c]; exact hV
theorem ptF_B {T : Nat → Int} (h : Byt T) (n : Nat) (x : Int) : ∀ k, Byt (ptF T n x k)
  | 0 => h
  | k + 1 => by
    intro j
    by_cases e : j = n + k
    · subst e
      rw [ptF, fu_s]
      omega
    · rw [ptF, fu_n e]
      exact ptF_B h n x k j
theorem fdT_B {T : Nat → Int} (h : Byt T) (n : Nat) (a b c d e : Int) : Byt (fdT T n a b c d e) := ptF_B (ptF_B (ptF_B (ptF_B (ptF_B h _ _ _) _ _ _) _ _ _) _ _ _) _ _ _
theorem sp_forget {G : Gx} {h : Hp} {x nx : Nat} (hI : Inv G h x) {p : Int} (rp : -2147483648 ≤ p ∧ p ≤ 2147483647) : Step G x nx yX9_forget cX9_forget 2 3 yX10_forget cX10_forget 2 3 (some .int) [vi p] h := by
  obtain ⟨it, φ, ps, im, V, n, T, ft, hF, hM, hV⟩ := hI
  obtain ⟨hS, hG, hps, hpg, him, hV8, hn7, hBy, hft⟩ := id hV
  refine ⟨_, c_X9_forget hF hS rp, fun z1 h1 q1 => ?_⟩
  obtain ⟨e1, F1, f1⟩ := q1
  have M1 : MS G h1 (x + 141) it φ ps im V n T ft := hM.keep (fun q g1 g2 => f1 q (by omega))
  refine ⟨M1.ob, _, c_X10_forget M1 hS hps rp, fun z2 h2 q2 => ?_⟩
  obtain ⟨e2, M2, f2⟩ := q2
  exact after (two e1 e2) F1 f1 M2 f2 (by by_cases c : hasI φ.length p; (rw [if_pos c, if_pos c]; obtain ⟨j, ej, hj⟩ := nat_of c; subst ej; rw [Int.toNat_natCast]; exact ivP hV (Sm_fgt hS hj) (Good_fgt hj hG)); (rw [if_neg c, if_neg c]; exact hV))
theorem sp_grow {G : Gx} {h : Hp} {x nx : Nat} (hI : Inv G h x) : Step G x nx yX9_grow cX9_grow 1 3 yX10_grow cX10_grow 1 3 (some .int) [] h := by
  obtain ⟨it, φ, ps, im, V, n, T, ft, hF, hM, hV⟩ := hI
  obtain ⟨hS, hG, hps, hpg, him, hV8, hn7, hBy, hft⟩ := id hV
  refine ⟨_, c_X9_grow hF hS, fun z1 h1 q1 => ?_⟩
  obtain ⟨e1, F1, f1⟩ := q1
  have M1 : MS G h1 (x + 141) it φ ps im V n T ft := hM.keep (fun q g1 g2 => f1 q (by omega))
  refine ⟨M1.ob, _, c_X10_grow M1 hS hps, fun z2 h2 q2 => ?_⟩
  obtain ⟨e2, M2, f2⟩ := q2
  exact after (e1.trans e2.symm) F1 f1 M2 f2 (by by_cases c : it < 8; (rw [if_pos c, if_pos c]; exact ivP hV (Sm_it hS (by omega)) hG); (rw [if_neg c, if_neg c]; exact hV))
theorem sp_finish {G : Gx} {h : Hp} {x nx : Nat} (hI : Inv G h x) : Step G x nx yX9_finish cX9_finish 4 7 yX10_finish cX10_finish 4 7 (some .int) [] h := by
  obtain ⟨it, φ, ps, im, V, n, T, ft, hF, hM, hV⟩ := hI
  obtain ⟨hS, hG, hps, hpg, him, hV8, hn7, hBy, hft⟩ := id hV
  have hfm := fn_FM hS hG
  refine ⟨_, c_X9_finish hF hS (FMq.o it) (FMq.w hS hG), fun z1 h1 q1 => ?_⟩
  obtain ⟨e1, F1, f1⟩ := q1
  have M1 : MS G h1 (x + 141) it φ ps im V n T ft := hM.keep (fun q g1 g2 => f1 q (by omega))
  refine ⟨M1.ob, _, c_X10_finish M1 hS hG hps, fun z2 h2 q2 => ?_⟩
  obtain ⟨e2, M2, f2⟩ := q2
  exact after (e1.trans e2.symm) F1 f1 M2 f2 (by by_cases c : 0 < (fnT it φ).2.2; (rw [if_pos c]; exact ivP hV hfm.1 hfm.good); (rw [if_neg c]; exact ivA hV hfm.1 hfm.good))
theorem sp_drawn {G : Gx} {h : Hp} {x nx : Nat} (hI : Inv G h x) {p p2 : Int} (rp : -2147483648 ≤ p ∧ p ≤ 2147483647) (rp2 : -2147483648 ≤ p2 ∧ p2 ≤ 2147483647) : Step G x nx yX9_drawn cX9_drawn 5 5 yX10_drawn cX10_drawn 5 7 (some .int) [vi p, vi p2] h := by
  obtain ⟨it, φ, ps, im, V, n, T, ft, hF, hM, hV⟩ := hI
  obtain ⟨hS, hG, hps, hpg, him, hV8, hn7, hBy, hft⟩ := id hV
  refine ⟨_, c_X9_drawn hF hS rp, fun z1 h1 q1 => ?_⟩
  obtain ⟨e1, F1, f1⟩ := q1
  have M1 : MS G h1 (x + 141) it φ ps im V n T ft := hM.keep (fun q g1 g2 => f1 q (by omega))
  refine ⟨M1.ob, _, c_X10_drawn M1 hS hG hps rp, fun z2 h2 q2 => ?_⟩
  obtain ⟨e2, M2, f2⟩ := q2
  exact after (e1.trans e2.symm) F1 f1 M2 f2 (by unfold dwT; by_cases c : 1 ≤ p ∧ p ≤ 60; (rw [if_pos c]; dsimp only; split; (exact ivP hV (Sm_ddN hS p2 _) (Good_ddN hS hG p2 _)); exact ivA hV (Sm_ddN hS p2 _) (Good_ddN hS hG p2 _)); (rw [if_neg c]; exact hV))
theorem sp_make {G : Gx} {h : Hp} {x nx : Nat} (hI : Inv G h x) {p p2 : Int} (rp : -2147483648 ≤ p ∧ p ≤ 2147483647) (rp2 : -2147483648 ≤ p2 ∧ p2 ≤ 2147483647) : Step G x nx yX9_make cX9_make 5 4 yX10_make cX10_make 7 12 (some .int) [vi p, vi p2] h := by
  obtain ⟨it, φ, ps, im, V, n, T, ft, hF, hM, hV⟩ := hI
  obtain ⟨hS, hG, hps, hpg, him, hV8, hn7, hBy, hft⟩ := id hV
  refine ⟨_, c_X9_make hF hS rp rp2, fun z1 h1 q1 => ?_⟩
  obtain ⟨e1, F1, f1⟩ := q1
  have M1 : MS G h1 (x + 141) it φ ps im V n T ft := hM.keep (fun q g1 g2 => f1 q (by omega))
  refine ⟨M1.ob, _, c_X10_make M1 hS hps rp rp2, fun z2 h2 q2 => ?_⟩
  obtain ⟨e2, M2, f2⟩ := q2
  exact after (e1.trans e2.symm) F1 f1 M2 f2 (by unfold mkT; split; (rename_i c; exact ivP hV (mk_Sm (show p.toNat ≤ 8 by omega)) mk_good); exact hV)
theorem sp_undo {G : Gx} {h : Hp} {x nx : Nat} (hI : Inv G h x) : Step G x nx yX9_undo cX9_undo 1 3 yX10_undo cX10_undo 1 2 (some .int) [] h := by
  obtain ⟨it, φ, ps, im, V, n, T, ft, hF, hM, hV⟩ := hI
  obtain ⟨hS, hG, hps, hpg, him, hV8, hn7, hBy, hft⟩ := id hV
  refine ⟨_, c_X9_undo hF hps.1, fun z1 h1 q1 => ?_⟩
  obtain ⟨e1, F1, f1⟩ := q1
  have M1 : MS G h1 (x + 141) it φ ps im V n T ft := hM.keep (fun q g1 g2 => f1 q (by omega))
  refine ⟨M1.ob, _, c_X10_undo M1 hS hps, fun z2 h2 q2 => ?_⟩
  obtain ⟨e2, M2, f2⟩ := q2
  exact after (e1.trans e2.symm) F1 f1 M2 f2 (by
    by_cases c : ps.length = 0
    · rw [if_pos c, if_pos c]; exact ⟨hS, hG, ⟨by rw [List.length_dropLast]; omega, fun i hi => absurd hi (by rw [List.length_dropLast]; omega)⟩, fun i hi => absurd hi (by rw [List.length_dropLast]; omega), hV.2.2.2.2⟩
    · rw [if_neg c, if_neg c]
      have g := gl_m (0, []) c
      exact ⟨(pmem (P := fun y => Sm y.1 y.2)).mp hps.2 _ g, (pmem (P := fun y => Good y.2)).mp hpg _ g, ⟨by have := hps.1; rw [List.length_dropLast]; omega, (pmem (P := fun y => Sm y.1 y.2)).mpr (fun y hy => (pmem (P := fun y => Sm y.1 y.2)).mp hps.2 y (dl_m hy))⟩, (pmem (P := fun y => Good y.2)).mpr (fun y hy => (pmem (P := fun y => Good y.2)).mp hpg y (dl_m hy)), hV.2.2.2.2⟩)
theorem sp_image {G : Gx} {h : Hp} {x nx : Nat} (hI : Inv G h x) {p : Int} (rp : -2147483648 ≤ p ∧ p ≤ 2147483647) : Step G x nx yX9_image cX9_image 2 3 yX10_image cX10_image 2 2 (some .boolean) [vi p] h := by
  obtain ⟨it, φ, ps, im, V, n, T, ft, hF, hM, hV⟩ := hI
  obtain ⟨hS, hG, hps, hpg, him, hV8, hn7, hBy, hft⟩ := id hV
  refine ⟨_, c_X9_image hF hS rp, fun z1 h1 q1 => ?_⟩
  obtain ⟨e1, F1, f1⟩ := q1
  have M1 : MS G h1 (x + 141) it φ ps im V n T ft := hM.keep (fun q g1 g2 => f1 q (by omega))
  refine ⟨M1.ob, _, c_X10_image M1 hS (fun k i ψ hk e => (him k i ψ hk e).1) rp, fun z2 h2 q2 => ?_⟩
  obtain ⟨e2, M2, f2⟩ := q2
  exact after (bz_e e1 e2) F1 f1 M2 f2 (by
    by_cases c : 0 ≤ p ∧ p < 2
    · rw [if_pos c]
      refine ⟨hS, hG, hps, hpg, fun k i ψ hk e => ?_, hV8, hn7, hBy, hft⟩
      by_cases c2 : k = p.toNat
      · subst c2; rw [fu_s] at e; cases e; exact ⟨hS, hG⟩
      · rw [fu_n c2] at e; exact him k i ψ hk e
    · rw [if_neg c]; exact hV)
theorem sp_restore {G : Gx} {h : Hp} {x nx : Nat} (hI : Inv G h x) {p : Int} (rp : -2147483648 ≤ p ∧ p ≤ 2147483647) : Step G x nx yX9_restore cX9_restore 2 3 yX10_restore cX10_restore 2 2 (some .boolean) [vi p] h := by
  obtain ⟨it, φ, ps, im, V, n, T, ft, hF, hM, hV⟩ := hI
  obtain ⟨hS, hG, hps, hpg, him, hV8, hn7, hBy, hft⟩ := id hV
  refine ⟨_, c_X9_restore hF hS (fun k i ψ hk e => (him k i ψ hk e).1) rp, fun z1 h1 q1 => ?_⟩
  obtain ⟨e1, F1, f1⟩ := q1
  have M1 : MS G h1 (x + 141) it φ ps im V n T ft := hM.keep (fun q g1 g2 => f1 q (by omega))
  refine ⟨M1.ob, _, c_X10_restore M1 hS (fun k i ψ hk e => (him k i ψ hk e).1) rp, fun z2 h2 q2 => ?_⟩
  obtain ⟨e2, M2, f2⟩ := q2
  exact after (bz_e e1 e2) F1 f1 M2 f2 (by
    cases er : rsO im p with
    | none => exact hV
    | some y =>
      obtain ⟨i2, ψ2⟩ := y
      unfold rsO at er
      split at er
      · rename_i c
        have g := him p.toNat i2 ψ2 (by omega) er
        exact ivR hV g.1 g.2
      · exact nomatch er)
theorem sp_feed {G : Gx} {h : Hp} {x nx : Nat} (hI : Inv G h x) {p1 p2 p3 p4 p5 : Int} (rp1 : -2147483648 ≤ p1 ∧ p1 ≤ 2147483647) (rp2 : -2147483648 ≤ p2 ∧ p2 ≤ 2147483647) (rp3 : -2147483648 ≤ p3 ∧ p3 ≤ 2147483647) (rp4 : -2147483648 ≤ p4 ∧ p4 ≤ 2147483647) (rp5 : -2147483648 ≤ p5 ∧ p5 ≤ 2147483647) : Step G x nx yX9_feed cX9_feed 6 2 yX10_feed cX10_feed 6 2 (some .int) [vi p1, vi p2, vi p3, vi p4, vi p5] h := by
  obtain ⟨it, φ, ps, im, V, n, T, ft, hF, hM, hV⟩ := hI
  obtain ⟨hS, hG, hps, hpg, him, hV8, hn7, hBy, hft⟩ := id hV
  refine ⟨_, c_X9_feed hF hn7, fun z1 h1 q1 => ?_⟩
  obtain ⟨e1, F1, f1⟩ := q1
  have M1 : MS G h1 (x + 141) it φ ps im V n T ft := hM.keep (fun q g1 g2 => f1 q (by omega))
  refine ⟨M1.ob, _, c_X10_feed M1 hn7, fun z2 h2 q2 => ?_⟩
  obtain ⟨e2, M2, f2⟩ := q2
  exact after (e1.trans e2.symm) F1 f1 M2 f2 (by by_cases c : n ≤ 720; (rw [if_pos c, if_pos c]; exact ⟨hS, hG, hps, hpg, him, hV8, by omega, fdT_B hBy _ _ _ _ _ _, hft⟩); (rw [if_neg c, if_neg c]; exact hV))
theorem sp_end {G : Gx} {h : Hp} {x nx : Nat} (hI : Inv G h x) {p : Int} (rp : -2147483648 ≤ p ∧ p ≤ 2147483647) : Step G x nx yX9_end cX9_end 2 1 yX10_end cX10_end 2 1 (some .boolean) [vi p] h := by
  obtain ⟨it, φ, ps, im, V, n, T, ft, hF, hM, hV⟩ := hI
  obtain ⟨hS, hG, hps, hpg, him, hV8, hn7, hBy, hft⟩ := id hV
  refine ⟨_, c_X9_end hF rp hn7, fun z1 h1 q1 => ?_⟩
  obtain ⟨e1, F1, f1⟩ := q1
  have M1 : MS G h1 (x + 141) it φ ps im V n T ft := hM.keep (fun q g1 g2 => f1 q (by omega))
  refine ⟨M1.ob, _, c_X10_end M1 rp hn7, fun z2 h2 q2 => ?_⟩
  obtain ⟨e2, M2, f2⟩ := q2
  exact after (bz_e e1 e2) F1 f1 M2 f2 (by by_cases c : 0 ≤ p ∧ p ≤ (n : Int); (rw [if_pos c]; exact ⟨hS, hG, hps, hpg, him, hV8, by omega, hBy, hft⟩); (rw [if_neg c]; exact hV))
theorem sp_test {G : Gx} {h : Hp} {x nx : Nat} (hI : Inv G h x) {kx p p2 : Int} (rkx : -2147483648 ≤ kx ∧ kx ≤ 2147483647) (rp : -2147483648 ≤ p ∧ p ≤ 2147483647) (rp2 : -2147483648 ≤ p2 ∧ p2 ≤ 2147483647) : Step G x nx yX9_test cX9_test 4 5 yX10_test cX10_test 4 5 (some .int) [vi kx, vi p, vi p2] h := by
  obtain ⟨it, φ, ps, im, V, n, T, ft, hF, hM, hV⟩ := hI
  obtain ⟨hS, hG, hps, hpg, him, hV8, hn7, hBy, hft⟩ := id hV
  refine ⟨_, c_X9_test hF hS rkx rp rp2, fun z1 h1 q1 => ?_⟩
  obtain ⟨e1, F1, f1⟩ := q1
  have M1 : MS G h1 (x + 141) it φ ps im V n T ft := hM.keep (fun q g1 g2 => f1 q (by omega))
  refine ⟨M1.ob, _, c_X10_test M1 hS hG rkx rp rp2, fun z2 h2 q2 => ?_⟩
  obtain ⟨e2, M2, f2⟩ := q2
  exact after (e1.trans e2.symm) F1 f1 M2 f2 (by
    unfold tsF
    by_cases c : nmd it φ kx p p2
    · rw [if_pos c]
      obtain ⟨c1, ⟨c2, c3, c4⟩, c5⟩ := id c
      obtain ⟨u, eu, hu⟩ := nat_of c2
      obtain ⟨v, ev, hv⟩ := nat_of c3
      subst eu
      subst ev
      rw [Int.toNat_natCast, Int.toNat_natCast]
      split
      · exact ivV hV (skV_8 hS.1 hu hv hV8)
      · exact hV
    · rw [if_neg c]; exact hV)
theorem sp_tell {G : Gx} {h : Hp} {x nx : Nat} (hI : Inv G h x) {kx p p2 : Int} (rkx : -2147483648 ≤ kx ∧ kx ≤ 2147483647) (rp : -2147483648 ≤ p ∧ p ≤ 2147483647) (rp2 : -2147483648 ≤ p2 ∧ p2 ≤ 2147483647) : Step G x nx yX9_tell cX9_tell 4 5 yX10_tell cX10_tell 4 5 (some .int) [vi kx, vi p, vi p2] h := by
  obtain ⟨it, φ, ps, im, V, n, T, ft, hF, hM, hV⟩ := hI
  obtain ⟨hS, hG, hps, hpg, him, hV8, hn7, hBy, hft⟩ := id hV
  refine ⟨_, c_X9_tell hF hS rkx rp rp2, fun z1 h1 q1 => ?_⟩
  obtain ⟨e1, F1, f1⟩ := q1
  have M1 : MS G h1 (x + 141) it φ ps im V n T ft := hM.keep (fun q g1 g2 => f1 q (by omega))
  refine ⟨M1.ob, _, c_X10_tell M1 hS hG hps rkx rp rp2, fun z2 h2 q2 => ?_⟩
  obtain ⟨e2, M2, f2⟩ := q2
  exact after (e1.trans e2.symm) F1 f1 M2 f2 (by
    unfold tlF
    by_cases c : nmd it φ kx p p2
    · rw [if_pos c]
      obtain ⟨c1, ⟨c2, c3, c4⟩, c5⟩ := id c
      obtain ⟨u, eu, hu⟩ := nat_of c2
      obtain ⟨v, ev, hv⟩ := nat_of c3
      subst eu
      subst ev
      rw [Int.toNat_natCast, Int.toNat_natCast]
      split
      · exact ivV hV (skV_8 hS.1 hu hv hV8)
      · rename_i c6
        have hk1 : kx.toNat ≤ 1 := by omega
        exact ivP hV (hS.add hk1 hu hv (by omega) c5) ((Good_app hk1).mpr (Classical.byContradiction fun g => c6 ((rfd_iff hS hG hk1 hu hv (by omega)).mpr g)))
    · rw [if_neg c]; exact hV)
