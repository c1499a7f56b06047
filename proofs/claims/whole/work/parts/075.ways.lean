/-! in how many ways: one count over edges, the class's and the reference's -/
noncomputable def Nw : List (Nat × Nat) → (Nat → Nat → Nat → Prop) → Nat
  | [], _ => 1
  | q :: t, E => (haveI := Classical.propDecidable (Gd (Ea2 E 0 q.1 q.2)); if Gd (Ea2 E 0 q.1 q.2) then Nw t (Ea2 E 0 q.1 q.2) else 0) + (haveI := Classical.propDecidable (Gd (Ea2 E 0 q.2 q.1)); if Gd (Ea2 E 0 q.2 q.1) then Nw t (Ea2 E 0 q.2 q.1) else 0) + (haveI := Classical.propDecidable (Gd (Ea2 E 1 q.1 q.2)); if Gd (Ea2 E 1 q.1 q.2) then Nw t (Ea2 E 1 q.1 q.2) else 0)
noncomputable def No (t : List (Nat × Nat)) (E : Nat → Nat → Nat → Prop) (k x y : Nat) : Nat := haveI := Classical.propDecidable (Gd (Ea2 E k x y)); if Gd (Ea2 E k x y) then Nw t (Ea2 E k x y) else 0
theorem Nw_c {q : Nat × Nat} {t : List (Nat × Nat)} {E : Nat → Nat → Nat → Prop} : Nw (q :: t) E = No t E 0 q.1 q.2 + No t E 0 q.2 q.1 + No t E 1 q.1 q.2 := rfl
theorem No_y {t : List (Nat × Nat)} {E : Nat → Nat → Nat → Prop} {k x y : Nat} (h : Gd (Ea2 E k x y)) : No t E k x y = Nw t (Ea2 E k x y) := by unfold No; rw [if_pos h]
theorem No_n {t : List (Nat × Nat)} {E : Nat → Nat → Nat → Prop} {k x y : Nat} (h : ¬ Gd (Ea2 E k x y)) : No t E k x y = 0 := by unfold No; rw [if_neg h]
theorem Ead_P {E F : Nat → Nat → Nat → Prop} (h : ∀ u v x, Ps E u v x ↔ Ps F u v x) {k a b : Nat} (hk : k ≤ 1) (hn : ¬ Ps E b a (-wt k)) (u v : Nat) (x : Int) : Ps (Ead E k a b) u v x ↔ Ps (Ead F k a b) u v x := by
  rw [Ps_dir hk hn, Ps_dir hk (fun q => hn ((h _ _ _).mpr q)), h]
  constructor
  · rintro (q | ⟨y, z, q1, q2, q3⟩)
    · exact Or.inl q
    · exact Or.inr ⟨y, z, (h _ _ _).mp q1, (h _ _ _).mp q2, q3⟩
  · rintro (q | ⟨y, z, q1, q2, q3⟩)
    · exact Or.inl q
    · exact Or.inr ⟨y, z, (h _ _ _).mpr q1, (h _ _ _).mpr q2, q3⟩
theorem Ea2_P {E F : Nat → Nat → Nat → Prop} (hE : Gd E) (h : ∀ u v x, Ps E u v x ↔ Ps F u v x) {k a b : Nat} (hk : k ≤ 1) (hg : Gd (Ea2 E k a b)) (u v : Nat) (x : Int) : Ps (Ea2 E k a b) u v x ↔ Ps (Ea2 F k a b) u v x := by
  rcases (show k = 0 ∨ k = 1 by omega) with rfl | rfl
  · rw [Gd2_0 hE] at hg
    rw [Ea2_0, Ea2_0]
    exact Ead_P h (by decide) hg u v x
  · rw [Gd2_1 hE] at hg
    rw [Ea2_1, Ea2_1]
    exact Ead_P (Ead_P h (by decide) hg.2) (by decide) (Ps1_n hE hg.2 hg.1) u v x
theorem Gd2_P {E F : Nat → Nat → Nat → Prop} (hE : Gd E) (hF : Gd F) (h : ∀ u v x, Ps E u v x ↔ Ps F u v x) {k a b : Nat} (hk : k ≤ 1) : Gd (Ea2 E k a b) ↔ Gd (Ea2 F k a b) := by
  rcases (show k = 0 ∨ k = 1 by omega) with rfl | rfl
  · rw [Gd2_0 hE, Gd2_0 hF, h]
  · rw [Gd2_1 hE, Gd2_1 hF, h, h]
theorem Nw_P : ∀ (t : List (Nat × Nat)) {E F : Nat → Nat → Nat → Prop}, Gd E → Gd F → (∀ u v x, Ps E u v x ↔ Ps F u v x) → Nw t E = Nw t F
  | [], _, _, _, _, _ => rfl
  | q :: t, E, F, hE, hF, h => by
    have key : ∀ k a b, k ≤ 1 → No t E k a b = No t F k a b := by
      intro k a b hk
      by_cases g : Gd (Ea2 E k a b)
      · have g2 := (Gd2_P hE hF h hk).mp g
        rw [No_y g, No_y g2]
        exact Nw_P t g g2 (Ea2_P hE h hk g)
      · rw [No_n g, No_n (fun z => g ((Gd2_P hE hF h hk).mpr z))]
    rw [Nw_c, Nw_c, key 0 _ _ (by decide), key 0 _ _ (by decide), key 1 _ _ (by decide)]
/-- at least one of the three may be told -/
theorem opt_one {E : Nat → Nat → Nat → Prop} (hG : Gd E) {a b : Nat} (hne : a ≠ b) : Gd (Ea2 E 0 a b) ∨ Gd (Ea2 E 0 b a) ∨ Gd (Ea2 E 1 a b) := by
  by_cases p1 : Ps E b a (-1)
  · by_cases p2 : Ps E a b (-1)
    · have key : ∀ u v, u ≠ v → Ps E u v (-1) → ¬ Ps E v u 1 := by
        rintro u v huv ⟨n1, c1, w1, v1⟩ ⟨n2, c2, w2, v2⟩
        have hn : 1 ≤ n1 + n2 := by
          cases n1 with
          | zero => exact absurd w1.1 huv
          | succ n1 => omega
        have := hG _ _ _ hn (wk_app w1 w2)
        rw [wv11] at v1 v2
        omega
      exact Or.inr (Or.inr ((Gd2_1 hG).mpr ⟨key b a (Ne.symm hne) p1, key a b hne p2⟩))
    · exact Or.inr (Or.inl ((Gd2_0 hG).mpr p2))
  · exact Or.inl ((Gd2_0 hG).mpr p1)
theorem Ead_same {E : Nat → Nat → Nat → Prop} (hG : Gd E) {k a b : Nat} (hk : k ≤ 1) (hn : ¬ Ps E b a (-wt k)) (hp : Ps E a b (wt k)) (u v : Nat) (x : Int) : Ps (Ead E k a b) u v x ↔ Ps E u v x := by
  rw [Ps_dir hk hn]
  constructor
  · rintro (q | ⟨y, z, q1, q2, q3⟩)
    · exact q
    · exact Ps_le (Ps_app (Ps_app q1 hp) q2) q3
  · exact Or.inl
/-- just one may be told: telling it raises no sum -/
theorem forced {E : Nat → Nat → Nat → Prop} (hG : Gd E) {a b : Nat} (t : List (Nat × Nat)) (h : (Gd (Ea2 E 0 a b) ∧ ¬ Gd (Ea2 E 0 b a) ∧ ¬ Gd (Ea2 E 1 a b)) ∨ (¬ Gd (Ea2 E 0 a b) ∧ Gd (Ea2 E 0 b a) ∧ ¬ Gd (Ea2 E 1 a b)) ∨ (¬ Gd (Ea2 E 0 a b) ∧ ¬ Gd (Ea2 E 0 b a) ∧ Gd (Ea2 E 1 a b))) : Nw ((a, b) :: t) E = Nw t E := by
  rw [Nw_c]
  dsimp only
  rcases h with ⟨h1, h2, h3⟩ | ⟨h1, h2, h3⟩ | ⟨h1, h2, h3⟩
  · rw [No_y h1, No_n h2, No_n h3]; show Nw t (Ea2 E 0 a b) = Nw t E
    refine Nw_P t h1 hG ?_
    rw [Gd2_0 hG] at h1
    have p : Ps E a b 1 := by
      rw [Gd2_1 hG] at h3
      refine Classical.byContradiction (fun q => h3 ⟨q, fun q2 => h1 (Ps_le q2 (by decide))⟩)
    rw [Ea2_0]
    exact Ead_same hG (by decide) h1 p
  · rw [No_n h1, No_y h2, No_n h3, Nat.add_zero, Nat.zero_add]
    refine Nw_P t h2 hG ?_
    rw [Gd2_0 hG] at h2
    have p : Ps E b a 1 := by
      rw [Gd2_1 hG] at h3
      refine Classical.byContradiction (fun q => h3 ⟨fun q2 => h2 (Ps_le q2 (by decide)), q⟩)
    rw [Ea2_0]
    exact Ead_same hG (by decide) h2 p
  · rw [No_n h1, No_n h2, No_y h3, Nat.add_zero, Nat.zero_add]
    refine Nw_P t h3 hG ?_
    rw [Gd2_0 hG] at h1 h2
    rw [Gd2_1 hG] at h3
    have p1 : Ps E b a (-1) := Classical.byContradiction h1
    have p2 : Ps E a b (-1) := Classical.byContradiction h2
    have e1 := Ead_same hG (k := 1) (a := a) (b := b) (by decide) h3.2 p2
    rw [Ea2_1]
    intro u v x
    rw [Ead_same (Gd_dir hG (by decide) h3.2) (by decide) (Ps1_n hG h3.2 h3.1) ((e1 _ _ _).mpr p1), e1]
def only1 (E : Nat → Nat → Nat → Prop) (a b : Nat) : Prop := (Gd (Ea2 E 0 a b) ∧ ¬ Gd (Ea2 E 0 b a) ∧ ¬ Gd (Ea2 E 1 a b)) ∨ (¬ Gd (Ea2 E 0 a b) ∧ Gd (Ea2 E 0 b a) ∧ ¬ Gd (Ea2 E 1 a b)) ∨ (¬ Gd (Ea2 E 0 a b) ∧ ¬ Gd (Ea2 E 0 b a) ∧ Gd (Ea2 E 1 a b))
theorem Ead_mono {E F : Nat → Nat → Nat → Prop} (h : ∀ k u v, E k u v → F k u v) {k a b : Nat} : ∀ k2 u v, Ead E k a b k2 u v → Ead F k a b k2 u v := fun k2 u v q => q.imp (h k2 u v) id
theorem Ea2_mono {E F : Nat → Nat → Nat → Prop} (h : ∀ k u v, E k u v → F k u v) {k a b : Nat} : ∀ k2 u v, Ea2 E k a b k2 u v → Ea2 F k a b k2 u v := by
  intro k2 u v q
  unfold Ea2 at q ⊢
  split
  · rename_i e; rw [if_pos e] at q; exact Ead_mono h _ _ _ q
  · rename_i e; rw [if_neg e] at q; exact Ead_mono (Ead_mono h) _ _ _ q
theorem only1.up {E F : Nat → Nat → Nat → Prop} (h : ∀ k u v, E k u v → F k u v) (hF : Gd F) {a b : Nat} (hne : a ≠ b) (g : only1 E a b) : only1 F a b := by
  have m : ∀ k x y, Gd (Ea2 F k x y) → Gd (Ea2 E k x y) := fun k x y q => Gd.mono (Ea2_mono h) q
  have o := opt_one hF hne
  unfold only1 at g ⊢
  rcases g with ⟨g1, g2, g3⟩ | ⟨g1, g2, g3⟩ | ⟨g1, g2, g3⟩
  · have n2 := fun q => g2 (m _ _ _ q)
    have n3 := fun q => g3 (m _ _ _ q)
    exact Or.inl ⟨(o.resolve_right (fun q => q.elim n2 n3)), n2, n3⟩
  · have n1 := fun q => g1 (m _ _ _ q)
    have n3 := fun q => g3 (m _ _ _ q)
    exact Or.inr (Or.inl ⟨n1, (o.resolve_left n1).resolve_right n3, n3⟩)
  · have n1 := fun q => g1 (m _ _ _ q)
    have n2 := fun q => g2 (m _ _ _ q)
    exact Or.inr (Or.inr ⟨n1, n2, (o.resolve_left n1).resolve_left n2⟩)
theorem Nw_1 {E : Nat → Nat → Nat → Prop} : ∀ (t : List (Nat × Nat)), (∀ q, q ∈ t → q.1 ≠ q.2 ∧ only1 E q.1 q.2) → Gd E → Nw t E = 1
  | [], _, _ => rfl
  | q :: t, h, hE => by
    have hq := h q List.mem_cons_self
    rw [show q = (q.1, q.2) from rfl, forced hE t hq.2]
    exact Nw_1 t (fun r hr => h r (List.mem_cons_of_mem _ hr)) hE
/-! the class's count -/
theorem only1_pc {E : Nat → Nat → Nat → Prop} {it a b : Nat} {M : Nat → Int} (h : GMx E it M) (ha : a < it) (hb : b < it) : pc8 (opt M a b) = 1 ↔ only1 E a b := by
  obtain ⟨o1, o2, o3⟩ := opt_bits h ha hb
  have hl := opt_le M a b
  unfold only1
  rw [← o1, ← o2, ← o3]
  unfold pc8
  omega
theorem nx_skip {it np : Nat} {f s : Nat → Nat} {E : Nat → Nat → Nat → Prop} {M : Nat → Int} {l : List (Nat × Nat)} (hM : GMx E it M) (hl : l.length = np) (hfs : ∀ i, i < np → l.getD i (0, 0) = (f i, s i) ∧ f i < it ∧ s i < it ∧ f i ≠ s i) : ∀ k p, p + k = np → Nw (l.drop p) E = Nw (l.drop (nxF M f s k p)) E ∧ (nxF M f s k p < np → ¬ only1 E (f (nxF M f s k p)) (s (nxF M f s k p))) ∧ ∀ i, p ≤ i → i < nxF M f s k p → only1 E (f i) (s i)
  | 0, p, hp => by
    refine ⟨rfl, fun q => ?_, fun i h1 h2 => ?_⟩
    · rw [nxF] at q; omega
    · rw [nxF] at h2; omega
  | k + 1, p, hp => by
    obtain ⟨g1, g2, g3, g4⟩ := hfs p (by omega)
    have ho := only1_pc hM g2 g3
    rw [nxF]
    by_cases e : pc8 (opt M (f p) (s p)) = 1
    · rw [if_pos e]
      obtain ⟨i1, i2, i3⟩ := nx_skip hM hl hfs k (p + 1) (by omega)
      refine ⟨?_, i2, fun i h1 h2 => ?_⟩
      · have ed : l.drop p = (f p, s p) :: l.drop (p + 1) := by
          rw [List.drop_eq_getElem_cons (by omega)]
          congr 1
          rw [← g1, List.getD_eq_getElem?_getD, List.getElem?_eq_getElem (by omega), Option.getD_some]
        rw [ed, forced hM.2.1 _ (ho.mp e)]
        exact i1
      · by_cases e2 : i = p
        · rw [e2]; exact ho.mp e
        · exact i3 i (by omega) h2
    · rw [if_neg e]
      exact ⟨rfl, fun _ q => e (ho.mpr q), fun i h1 h2 => by omega⟩
theorem jnB_g {E : Nat → Nat → Nat → Prop} {it a b j : Nat} {M : Nat → Int} (h : GMx E it M) (ha : a < it) (hb : b < it) (hj : j < 3) : ∃ k x y, k ≤ 1 ∧ (x = a ∧ y = b ∨ x = b ∧ y = a) ∧ (k, x, y) = (if j = 0 then (0, a, b) else if j = 1 then (0, b, a) else (1, a, b)) ∧ (opt M a b / 2 ^ j % 2 = 1 ↔ Gd (Ea2 E k x y)) ∧ (Gd (Ea2 E k x y) → GMx (Ea2 E k x y) it (jnB M it (2 ^ j) a b)) := by
  obtain ⟨o1, o2, o3⟩ := opt_bits h ha hb
  rcases (show j = 0 ∨ j = 1 ∨ j = 2 by omega) with rfl | rfl | rfl
  · exact ⟨0, a, b, by decide, Or.inl ⟨rfl, rfl⟩, rfl, by rw [show 2 ^ 0 = 1 from rfl, Nat.div_one]; exact o1, fun q => h.jn (by decide) ha hb q⟩
  · exact ⟨0, b, a, by decide, Or.inr ⟨rfl, rfl⟩, rfl, o2, fun q => h.jn (by decide) hb ha q⟩
  · exact ⟨1, a, b, by decide, Or.inl ⟨rfl, rfl⟩, rfl, o3, fun q => h.jn (by decide) ha hb q⟩
def oj (j a b : Nat) : Nat × Nat × Nat := if j = 0 then (0, a, b) else if j = 1 then (0, b, a) else (1, a, b)
noncomputable def Nj (t : List (Nat × Nat)) (E : Nat → Nat → Nat → Prop) (a b : Nat) : Nat → Nat
  | 0 => 0
  | j + 1 => Nj t E a b j + No t E (oj j a b).1 (oj j a b).2.1 (oj j a b).2.2
theorem Nj_3 {t : List (Nat × Nat)} {E : Nat → Nat → Nat → Prop} {a b : Nat} : Nj t E a b 3 = Nw ((a, b) :: t) E := by
  rw [Nw_c]
  show 0 + No t E 0 a b + No t E 0 b a + No t E 1 a b = _
  rw [Nat.zero_add]
def CtO (c N r : Nat) : Prop := (c + N ≤ 999 → r = c + N) ∧ (999 < c + N → 999 < r)
theorem fol_ok {it np : Nat} {f s : Nat → Nat} {l : List (Nat × Nat)} (hl : l.length = np) (hfs : ∀ i, i < np → l.getD i (0, 0) = (f i, s i) ∧ f i < it ∧ s i < it ∧ f i ≠ s i) : ∀ k (M : Nat → Int) p c (E : Nat → Nat → Nat → Prop), GMx E it M → p ≤ np → np - p ≤ k → c ≤ 999 → CtO c (Nw (l.drop p) E) (folF it np f s k M p c)
  | 0, M, p, c, E, hM, hp, hk, hc => by
    rw [List.drop_eq_nil_of_le (by omega)]
    show CtO c 1 (c + 1)
    exact ⟨fun _ => rfl, fun q => q⟩
  | k + 1, M, p, c, E, hM, hp, hk, hc => by
    obtain ⟨s1, s2, s3⟩ := nx_skip hM hl hfs (np - p) p (by omega)
    have hqb := nxo_b (M := M) (f := f) (s := s) hp
    have e0 : nxF M f s (np - p) p = nxo M f s np p := rfl
    rw [e0] at s1 s2 s3
    rw [s1]
    by_cases h1 : np ≤ nxo M f s np p
    · rw [folF, if_pos h1, List.drop_eq_nil_of_le (by omega)]
      show CtO c 1 (c + 1)
      exact ⟨fun _ => rfl, fun q => q⟩
    · generalize hq : nxo M f s np p = q at *
      obtain ⟨g1, g2, g3, g4⟩ := hfs q (by omega)
      have ed : l.drop q = (f q, s q) :: l.drop (q + 1) := by
        rw [List.drop_eq_getElem_cons (by omega)]
        congr 1
        rw [← g1, List.getD_eq_getElem?_getD, List.getElem?_eq_getElem (by omega), Option.getD_some]
      rw [ed, ← Nj_3]
      by_cases h2 : np ≤ nxo M f s np (q + 1)
      · rw [folF, hq, if_neg h1, if_pos h2]
        obtain ⟨t1, t2, t3⟩ := nx_skip hM hl hfs (np - (q + 1)) (q + 1) (by omega)
        have e1 : nxF M f s (np - (q + 1)) (q + 1) = nxo M f s np (q + 1) := rfl
        rw [e1] at t3
        have hone : ∀ r, r ∈ l.drop (q + 1) → r.1 ≠ r.2 ∧ only1 E r.1 r.2 := by
          intro r hr
          obtain ⟨i, hi, er⟩ := List.getElem_of_mem hr
          rw [List.length_drop] at hi
          rw [List.getElem_drop] at er
          obtain ⟨k1, k2, k3, k4⟩ := hfs (q + 1 + i) (by omega)
          rw [List.getD_eq_getElem?_getD, List.getElem?_eq_getElem (by omega), Option.getD_some, er] at k1
          rw [k1]
          exact ⟨k4, t3 (q + 1 + i) (by omega) (by omega)⟩
        have hNo : ∀ k2 x y, No (l.drop (q + 1)) E k2 x y = (haveI := Classical.propDecidable (Gd (Ea2 E k2 x y)); if Gd (Ea2 E k2 x y) then 1 else 0) := by
          intro k2 x y
          by_cases g : Gd (Ea2 E k2 x y)
          · rw [No_y g, if_pos g]
            exact Nw_1 _ (fun r hr => ⟨(hone r hr).1, (hone r hr).2.up Ea2_le g (hone r hr).1⟩) g
          · rw [No_n g, if_neg g]
        obtain ⟨o1, o2, o3⟩ := opt_bits hM g2 g3
        have hol := opt_le M (f q) (s q)
        have e2 : Nj (l.drop (q + 1)) E (f q) (s q) 3 = pc8 (opt M (f q) (s q)) := by
          show 0 + No _ E 0 (f q) (s q) + No _ E 0 (s q) (f q) + No _ E 1 (f q) (s q) = _
          rw [hNo, hNo, hNo]
          unfold pc8
          by_cases q1 : Gd (Ea2 E 0 (f q) (s q)) <;> by_cases q2 : Gd (Ea2 E 0 (s q) (f q)) <;> by_cases q3 : Gd (Ea2 E 1 (f q) (s q))
          all_goals
            simp only [q1, q2, q3, if_true, if_false, iff_true, iff_false] at o1 o2 o3 ⊢
            omega
        rw [e2]
        exact ⟨fun _ => rfl, fun z => z⟩
      · rw [folF_cs (by rw [hq]; exact h1) (by rw [hq]; exact h2), hq]
        have key : ∀ j, j ≤ 3 → CtO c (Nj (l.drop (q + 1)) E (f q) (s q) j) (csF it np f s k M q c j) := by
          intro j
          induction j with
          | zero => intro _; exact ⟨fun _ => rfl, fun z => by have z2 : 999 < c + 0 := z; omega⟩
          | succ j ih =>
            intro hj
            have ihj := ih (by omega)
            obtain ⟨k2, x, y, a1, a2, a3, a4, a5⟩ := jnB_g (j := j) hM g2 g3 (by omega)
            have eo : oj j (f q) (s q) = (k2, x, y) := a3.symm
            rw [csF, Nj, eo]
            dsimp only
            by_cases hcj : csF it np f s k M q c j ≤ 999
            · have hcc : c + Nj (l.drop (q + 1)) E (f q) (s q) j ≤ 999 := Nat.not_lt.mp (fun z => by have := ihj.2 z; omega)
              have ec := ihj.1 hcc
              by_cases hb : opt M (f q) (s q) / 2 ^ j % 2 = 1
              · rw [if_pos ⟨hcj, hb⟩, No_y (a4.mp hb)]
                have := fol_ok hl hfs k (jnB M it (2 ^ j) (f q) (s q)) (q + 1) (csF it np f s k M q c j) (Ea2 E k2 x y) (a5 (a4.mp hb)) (by omega) (by omega) hcj
                rw [ec] at this ⊢
                exact ⟨fun z => by rw [this.1 (by omega)]; omega, fun z => this.2 (by omega)⟩
              · rw [if_neg (fun z => hb z.2), No_n (fun z => hb (a4.mpr z)), Nat.add_zero]
                exact ihj
            · rw [if_neg (fun z => hcj z.1)]
              refine ⟨fun z => ?_, fun _ => by omega⟩
              have := ihj.1 (by omega)
              omega
        exact key 3 (Nat.le_refl 3)
theorem wys_ok {φ : Fs} {it : Nat} (hS : Sm it φ) (hG : Good φ) : (if wysF φ it ≤ 999 then wysF φ it else 999) = (if Nw (prs φ it it) (EF φ 0) ≤ 999 then Nw (prs φ it it) (EF φ 0) else 999) := by
  have h8 := hS.1
  have hlen := Nat.le_trans (prs_len φ it it) (cmF_t it (by omega))
  have h := fol_ok (it := it) (l := prs φ it it) (f := pF φ it) (s := pS φ it) rfl (fun i hi => by
    have := pr_at hi
    exact ⟨rfl, by omega, by omega, by omega⟩) 28 (wgh φ 0 it) 0 0 (EF φ 0) (wgh_g hS hG) (Nat.zero_le _) (by omega) (by omega)
  rw [List.drop_zero] at h
  have e : wysF φ it = folF it (prs φ it it).length (pF φ it) (pS φ it) 28 (wgh φ 0 it) 0 0 := rfl
  rw [← e] at h
  unfold CtO at h
  rw [Nat.zero_add] at h
  by_cases g : Nw (prs φ it it) (EF φ 0) ≤ 999
  · rw [h.1 g, if_pos g]
  · have := h.2 (by omega)
    rw [if_neg g, if_neg (by omega)]
theorem GM_o {φ : Fs} {it : Nat} : GMo it (prs φ it it).length (pF φ it) (pS φ it) (fun M => ∃ E, GMx E it M) := by
  refine ⟨fun M ⟨E, h⟩ => h.bd, ?_⟩
  rintro M i j ⟨E, h⟩ hi hj hb
  have hp := pr_at hi
  obtain ⟨k2, x, y, a1, a2, a3, a4, a5⟩ := jnB_g (j := j) h (show pF φ it i < it by omega) hp.2.1 hj
  exact ⟨_, a5 (a4.mp hb)⟩
