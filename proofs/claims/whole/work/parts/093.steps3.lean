/-! notes: the ring that is kept stays in its bounds -/
def JV (x : RS) : Prop := x.2.1 ≤ 8 ∧ 0 ≤ x.2.2.2.2.2.2.1 ∧ x.2.2.2.2.2.2.1 ≤ 8
theorem JV_stop {T : Nat → Int} {n lm : Nat} {x : RS} (h : JV x) : JV (rStop T n lm x).2 := by
  unfold rStop
  dsimp only
  split
  · exact h
  · exact h
theorem JV_item {T : Nat → Int} {n lm : Nat} {x : RS} (h : JV x) : JV (rItem T n lm x).2 := by
  unfold rItem
  split
  · exact h
  · rename_i c
    split
    · exact h
    · split
      · exact h
      · exact JV_stop ⟨show x.2.1 + 1 ≤ 8 by omega, h.2⟩
theorem srI_lt {NM : Nat → Int} {it : Nat} {w : Int} (h : ¬ srI NM it w = -1) : (srI NM it w).toNat < it := by
  have := sr_b (P := fun i => NM i = w) (n := it)
  unfold srI at *
  omega
theorem JV_fact {T : Nat → Int} {n lm : Nat} {x : RS} (h : JV x) : JV (rFact T n lm x).2 := by
  unfold rFact
  dsimp only
  split
  · exact h
  · split
    · exact h
    · rename_i c2
      split
      · exact h
      · split
        · exact h
        · split
          · exact h
          · rename_i c5
            split
            · exact JV_stop (x := (nxT T n lm (nxT T n lm x.1), x.2)) h
            · generalize (if (nxT T n lm x.1).2.2.2 = 72564293 then (0 : Nat) else 1) = kk
              split
              · exact ⟨h.1, skV_8 h.1 (srI_lt c2) (srI_lt (fun e => c5 (Or.inl e))) h.2⟩
              · exact h
theorem JV_row {T : Nat → Int} {n lm : Nat} {x : RS} (h : JV x) : JV (rRow T n lm x).2 := by
  unfold rRow
  split
  · exact JV_item h
  · exact JV_fact h
theorem JV_rdL {T : Nat → Int} {n lm k : Nat} : ∀ {x : RS} {c : Nat}, JV x → JV (rdL T n lm k x c).2 := by
  induction k with
  | zero => intro x c h; exact h
  | succ k ih =>
    intro x c h
    unfold rdL
    split
    · exact h
    · split
      · exact ih (JV_row h)
      · exact JV_row h
theorem JV_rdB {T : Nat → Int} {n : Nat} {wd : Int} {NM : Nat → Int} {fp : Nat} {V : RV} (h : 0 ≤ V.1 ∧ V.1 ≤ 8) : JV (rdB T n wd NM fp V).2 := by
  have h1 : JV (rdA T n wd NM fp V).2 := JV_rdL ⟨Nat.zero_le 8, h⟩
  unfold rdB
  dsimp only
  split
  · exact h1
  · exact h1
theorem sp_notes {G : Gx} {h : Hp} {x nx : Nat} (hI : Inv G h x) : Step G x nx yX9_notes cX9_notes 2 8 yX10_notes cX10_notes 3 8 (some .int) [] h := by
  obtain ⟨it, φ, ps, im, V, n, T, ft, hF, hM, hV⟩ := hI
  obtain ⟨hS, hG, hps, hpg, him, hV8, hn7, hBy, hft⟩ := id hV
  refine ⟨_, c_X9_notes hF hn7 hBy, fun z1 h1 q1 => ?_⟩
  obtain ⟨wd, NM, fp, e1, hSn, hf4, F1, f1⟩ := q1
  have M1 : MS G h1 (x + 141) it φ ps im V n T ft := hM.keep (fun q g1 g2 => f1 q (by omega))
  refine ⟨M1.ob, _, c_X10_notes M1 hS hn7 hBy wd NM fp, fun z2 h2 q2 => ?_⟩
  obtain ⟨e2, hGn, M2, f2⟩ := q2
  exact after (e1.trans e2.symm) F1 f1 M2 f2 (by
    have hJ := (JV_rdB (T := T) (n := n) (wd := wd) (NM := NM) (fp := fp) hV8).2
    by_cases c : (rdB T n wd NM fp V).2.2.2.2.2.1 = 0
    · rw [if_pos c, if_pos c, if_pos c]
      exact ⟨hSn, hGn c, ⟨Nat.zero_le 8, fun i hi => absurd hi (Nat.not_lt_zero i)⟩, fun i hi => absurd hi (Nat.not_lt_zero i), him, hJ, Nat.zero_le _, hBy, hf4⟩
    · rw [if_neg c, if_neg c, if_neg c]
      exact ⟨hS, hG, hps, hpg, him, hJ, Nat.zero_le _, hBy, hf4⟩)
