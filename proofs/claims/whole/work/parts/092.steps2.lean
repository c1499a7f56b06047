/-! turn and drop keep what is SMALL and GOOD -/
theorem wk_rev {E : Nat → Nat → Nat → Prop} {n : Nat} : ∀ {u v b : Nat}, wk E n u v b → wk (fun k a c => E k c a) n v u b := by
  induction n with
  | zero => intro u v b h; exact ⟨h.1.symm, h.2⟩
  | succ n ih =>
    intro u v b h
    obtain ⟨t, ⟨e, c, hc, g⟩ | ⟨e, g⟩⟩ := h
    · subst hc
      exact wk_app (ih g) (wk_one (E := fun k a c => E k c a) (k := 0) (u := t) (v := u) e (by omega))
    · exact wk_app (ih g) (wk_one (E := fun k a c => E k c a) (k := 1) (u := t) (v := u) e (by omega))
theorem Gd_rev {E : Nat → Nat → Nat → Prop} (H : Gd E) : Gd (fun k a c => E k c a) := fun n u b hn hw => H n u b hn (wk_rev hw)
theorem wk_map {E F : Nat → Nat → Nat → Prop} (f : Nat → Nat) (hf : ∀ k u v, E k u v → F k (f u) (f v)) {n : Nat} : ∀ {u v b : Nat}, wk E n u v b → wk F n (f u) (f v) b := by
  induction n with
  | zero => intro u v b h; exact ⟨by rw [h.1], h.2⟩
  | succ n ih =>
    intro u v b h
    obtain ⟨t, ⟨e, c, hc, g⟩ | ⟨e, g⟩⟩ := h
    · exact ⟨f t, Or.inl ⟨hf _ _ _ e, c, hc, ih g⟩⟩
    · exact ⟨f t, Or.inr ⟨hf _ _ _ e, ih g⟩⟩
theorem Gd_map {E F : Nat → Nat → Nat → Prop} (f : Nat → Nat) (hf : ∀ k u v, E k u v → F k (f u) (f v)) (H : Gd F) : Gd E := fun n u b hn hw => H n (f u) b hn (wk_map f hf hw)
theorem Good_trn {it : Nat} {φ : Fs} (hS : Sm it φ) (h : Good φ) : Good (trn φ) := by
  refine Gd.mono (fun k u v => ?_) (Gd_rev h)
  rintro ⟨i, hi, h0, hk, ho⟩
  rw [trn_len] at hi
  obtain ⟨t1, t2, t3⟩ := trn_at hi
  have hs := (hS.2.2 i hi).1
  refine ⟨i, hi, h0, t1.symm.trans hk, ?_⟩
  rw [t1] at hk
  rw [t2, t3] at ho
  by_cases c : kd φ i = 0
  · rw [if_pos c, if_pos c] at ho
    omega
  · rw [if_neg c, if_neg c] at ho
    omega
theorem Sm_trn {it : Nat} {φ : Fs} (hS : Sm it φ) : Sm it (trn φ) := by
  refine ⟨hS.1, by rw [trn_len]; exact hS.2.1, fun i hi => ?_⟩
  rw [trn_len] at hi
  obtain ⟨a1, a2, a3, a4, a5⟩ := hS.2.2 i hi
  obtain ⟨t1, t2, t3⟩ := trn_at hi
  refine ⟨by rw [t1]; exact a1, ?_, ?_, ?_, fun j hj => ?_⟩
  · rw [t2]; split <;> assumption
  · rw [t3]; split <;> assumption
  · rw [t2, t3]
    split <;> omega
  · have a6 := a5 j hj
    obtain ⟨s1, s2, s3⟩ := trn_at (φ := φ) (k := j) (by omega)
    rw [t2, t3, s2, s3]
    by_cases c : kd φ i = 0
    · rw [if_pos c, if_pos c]
      by_cases c2 : kd φ j = 0
      · rw [if_pos c2, if_pos c2]; omega
      · rw [if_neg c2, if_neg c2]; omega
    · rw [if_neg c, if_neg c]
      by_cases c2 : kd φ j = 0
      · rw [if_pos c2, if_pos c2]; omega
      · rw [if_neg c2, if_neg c2]; omega
theorem gdm {α : Type} {d : α} : ∀ {l : List α} {i : Nat}, i < l.length → l.getD i d ∈ l
  | [], i, h => absurd h (Nat.not_lt_zero i)
  | a :: r, 0, _ => List.mem_cons_self
  | a :: r, i + 1, h => List.mem_cons_of_mem _ (gdm (l := r) (Nat.lt_of_succ_lt_succ h))
theorem mgd {α : Type} {d : α} : ∀ {l : List α} {q : α}, q ∈ l → ∃ i, i < l.length ∧ l.getD i d = q
  | [], q, h => nomatch h
  | a :: r, q, h => by
    rcases List.mem_cons.mp h with rfl | h
    · exact ⟨0, Nat.succ_pos _, rfl⟩
    · obtain ⟨i, hi, e⟩ := mgd (d := d) h
      exact ⟨i + 1, Nat.succ_lt_succ hi, e⟩
theorem EF_m {φ : Fs} {k u v : Nat} : EF φ 0 k u v ↔ ∃ q ∈ φ, q.1 = k ∧ ((q.2.1 = u ∧ q.2.2 = v) ∨ (k = 1 ∧ q.2.2 = u ∧ q.2.1 = v)) := by
  constructor
  · rintro ⟨i, hi, h0, hk, ho⟩
    exact ⟨φ.getD i (0, 0, 0), gdm hi, hk, ho⟩
  · rintro ⟨q, hq, hk, ho⟩
    obtain ⟨i, hi, e⟩ := mgd (d := (0, 0, 0)) hq
    exact ⟨i, hi, by rw [Nat.zero_div], by unfold kd; rw [e]; exact hk, by unfold fi se; rw [e]; exact ho⟩
theorem drp_m {i : Nat} : ∀ {φ : Fs} {q : Nat × Nat × Nat}, q ∈ drp i φ → ∃ a ∈ φ, a.2.1 ≠ i ∧ a.2.2 ≠ i ∧ q = (a.1, dI i a.2.1, dI i a.2.2)
  | [], q, h => nomatch h
  | a :: t, q, h => by
    rw [drp] at h
    split at h
    · obtain ⟨b, hb, g⟩ := drp_m h
      exact ⟨b, List.mem_cons_of_mem _ hb, g⟩
    · rename_i c
      rcases List.mem_cons.mp h with rfl | h
      · exact ⟨a, List.mem_cons_self, fun e => c (Or.inl e), fun e => c (Or.inr e), rfl⟩
      · obtain ⟨b, hb, g⟩ := drp_m h
        exact ⟨b, List.mem_cons_of_mem _ hb, g⟩
def upI (i u : Nat) : Nat := if u < i then u else u + 1
theorem up_dI {i u : Nat} (h : u ≠ i) : upI i (dI i u) = u := by
  unfold upI dI
  split <;> split <;> omega
theorem Good_drp {i : Nat} {φ : Fs} (h : Good φ) : Good (drp i φ) := by
  refine Gd_map (upI i) (fun k u v hE => ?_) h
  obtain ⟨q, hq, hk, ho⟩ := EF_m.mp hE
  obtain ⟨a, ha, n1, n2, e⟩ := drp_m hq
  subst e
  refine EF_m.mpr ⟨a, ha, hk, ?_⟩
  rcases ho with ⟨g1, g2⟩ | ⟨g0, g1, g2⟩
  · exact Or.inl ⟨by rw [← g1]; exact (up_dI n1).symm, by rw [← g2]; exact (up_dI n2).symm⟩
  · exact Or.inr ⟨g0, by rw [← g1]; exact (up_dI n2).symm, by rw [← g2]; exact (up_dI n1).symm⟩
def Rpr (a b : Nat × Nat × Nat) : Prop := ¬ ((a.2.1 = b.2.1 ∧ a.2.2 = b.2.2) ∨ (a.2.1 = b.2.2 ∧ a.2.2 = b.2.1))
theorem dI_inj {i u v : Nat} (h1 : u ≠ i) (h2 : v ≠ i) (e : dI i u = dI i v) : u = v := by rw [← up_dI h1, ← up_dI h2, e]
theorem drp_pw {i : Nat} : ∀ {φ : Fs}, φ.Pairwise Rpr → (drp i φ).Pairwise Rpr
  | [], _ => List.Pairwise.nil
  | a :: t, h => by
    rw [List.pairwise_cons] at h
    rw [drp]
    split
    · exact drp_pw h.2
    · rename_i c
      refine List.pairwise_cons.mpr ⟨fun q hq => ?_, drp_pw h.2⟩
      obtain ⟨b, hb, n1, n2, e⟩ := drp_m hq
      subst e
      have m1 : a.2.1 ≠ i := fun e => c (Or.inl e)
      have m2 : a.2.2 ≠ i := fun e => c (Or.inr e)
      intro g
      refine h.1 b hb ?_
      rcases g with ⟨g1, g2⟩ | ⟨g1, g2⟩
      · exact Or.inl ⟨dI_inj m1 n1 g1, dI_inj m2 n2 g2⟩
      · exact Or.inr ⟨dI_inj m1 n2 g1, dI_inj m2 n1 g2⟩
theorem gd_el {φ : Fs} {i : Nat} (h : i < φ.length) : φ.getD i (0, 0, 0) = φ[i] := by rw [List.getD_eq_getElem?_getD, List.getElem?_eq_getElem h, Option.getD_some]
theorem Sm_pw {it : Nat} {φ : Fs} : Sm it φ ↔ it ≤ 8 ∧ φ.length ≤ 28 ∧ (∀ q ∈ φ, q.1 ≤ 1 ∧ q.2.1 < it ∧ q.2.2 < it ∧ q.2.1 ≠ q.2.2) ∧ φ.Pairwise Rpr := by
  constructor
  · intro h
    refine ⟨h.1, h.2.1, fun q hq => ?_, List.pairwise_iff_getElem.mpr fun i j hi hj hij => ?_⟩
    · obtain ⟨i, hi, e⟩ := mgd (d := (0, 0, 0)) hq
      obtain ⟨a1, a2, a3, a4, -⟩ := h.2.2 i hi
      unfold kd at a1
      unfold fi at a2 a4
      unfold se at a3 a4
      rw [e] at a1 a2 a3 a4
      exact ⟨a1, a2, a3, a4⟩
    · have g := (h.2.2 j hj).2.2.2.2 i hij
      unfold fi se at g
      rw [gd_el hi, gd_el hj] at g
      exact g
  · rintro ⟨h1, h2, h3, h4⟩
    refine ⟨h1, h2, fun i hi => ?_⟩
    obtain ⟨a1, a2, a3, a4⟩ := h3 _ (gdm (d := (0, 0, 0)) hi)
    refine ⟨a1, a2, a3, a4, fun j hj => ?_⟩
    have g := List.pairwise_iff_getElem.mp h4 j i (by omega) hi hj
    unfold fi se
    rw [gd_el hi, gd_el (show j < φ.length by omega)]
    exact g
theorem Sm_drp {it i : Nat} {φ : Fs} (hS : Sm it φ) (hi : i < it) : Sm (it - 1) (drp i φ) := by
  obtain ⟨h1, h2, h3, h4⟩ := Sm_pw.mp hS
  refine Sm_pw.mpr ⟨by omega, Nat.le_trans (drp_len i φ) h2, fun q hq => ?_, drp_pw h4⟩
  obtain ⟨a, ha, n1, n2, e⟩ := drp_m hq
  subst e
  obtain ⟨b1, b2, b3, b4⟩ := h3 a ha
  refine ⟨b1, ?_, ?_, fun e => b4 (dI_inj n1 n2 e)⟩
  · show dI i a.2.1 < it - 1
    unfold dI; split <;> omega
  · show dI i a.2.2 < it - 1
    unfold dI; split <;> omega
theorem sp_turn {G : Gx} {h : Hp} {x nx : Nat} (hI : Inv G h x) : Step G x nx yX9_turn cX9_turn 2 4 yX10_turn cX10_turn 4 3 (some .int) [] h := by
  obtain ⟨it, φ, ps, im, V, n, T, ft, hF, hM, hV⟩ := hI
  obtain ⟨hS, hG, hps, hpg, him, hV8, hn7, hBy, hft⟩ := id hV
  refine ⟨_, c_X9_turn hF hS, fun z1 h1 q1 => ?_⟩
  obtain ⟨e1, F1, f1⟩ := q1
  have M1 : MS G h1 (x + 141) it φ ps im V n T ft := hM.keep (fun q g1 g2 => f1 q (by omega))
  refine ⟨M1.ob, _, c_X10_turn M1 hS hps, fun z2 h2 q2 => ?_⟩
  obtain ⟨e2, M2, f2⟩ := q2
  exact after (e1.trans e2.symm) F1 f1 M2 f2 (by by_cases c : 0 < nbF φ φ.length; (rw [if_pos c]; exact ivP hV (Sm_trn hS) (Good_trn hS hG)); (rw [if_neg c]; exact ivA hV (Sm_trn hS) (Good_trn hS hG)))
theorem sp_drop {G : Gx} {h : Hp} {x nx : Nat} (hI : Inv G h x) {p : Int} (rp : -2147483648 ≤ p ∧ p ≤ 2147483647) : Step G x nx yX9_drop cX9_drop 2 3 yX10_drop cX10_drop 3 3 (some .int) [vi p] h := by
  obtain ⟨it, φ, ps, im, V, n, T, ft, hF, hM, hV⟩ := hI
  obtain ⟨hS, hG, hps, hpg, him, hV8, hn7, hBy, hft⟩ := id hV
  refine ⟨_, c_X9_drop hF hS rp, fun z1 h1 q1 => ?_⟩
  obtain ⟨e1, F1, f1⟩ := q1
  have M1 : MS G h1 (x + 141) it φ ps im V n T ft := hM.keep (fun q g1 g2 => f1 q (by omega))
  refine ⟨M1.ob, _, c_X10_drop M1 hS hps rp, fun z2 h2 q2 => ?_⟩
  obtain ⟨e2, M2, f2⟩ := q2
  exact after (two e1 e2) F1 f1 M2 f2 (by by_cases c : hasI it p; (rw [if_pos c, if_pos c, if_pos c]; obtain ⟨j, ej, hj⟩ := nat_of c; subst ej; rw [Int.toNat_natCast]; exact ivP hV (Sm_drp hS hj) (Good_drp hG)); (rw [if_neg c, if_neg c, if_neg c]; exact hV))
