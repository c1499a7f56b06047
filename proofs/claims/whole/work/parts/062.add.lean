/-! one more edge -/
def Ead (E : Nat → Nat → Nat → Prop) (k a b : Nat) : Nat → Nat → Nat → Prop := fun k' u v => E k' u v ∨ (k' = k ∧ u = a ∧ v = b)
theorem wk_cons {E : Nat → Nat → Nat → Prop} {n u v b : Nat} (h : wk E (n + 1) u v b) : ∃ k t c, k ≤ 1 ∧ E k u t ∧ wk E n t v c ∧ wv 1 (-1) (n + 1) b = wt k + wv 1 (-1) n c := by
  obtain ⟨x, ⟨e, c, hc, g⟩ | ⟨e, g⟩⟩ := h
  · exact ⟨0, x, c, by decide, e, g, by rw [wv11, wv11, hc]; unfold wt; rw [if_pos rfl]; omega⟩
  · exact ⟨1, x, b, by decide, e, g, by rw [wv11, wv11]; unfold wt; rw [if_neg (by decide)]; omega⟩
theorem Ps_0 {E : Nat → Nat → Nat → Prop} {u : Nat} : Ps E u u 0 := ⟨0, 0, ⟨rfl, rfl⟩, by rw [wv_0]; exact Int.le_refl _⟩
theorem Ps_le {E : Nat → Nat → Nat → Prop} {u v : Nat} {x y : Int} (h : Ps E u v x) (hy : y ≤ x) : Ps E u v y := by
  obtain ⟨n, c, h1, h2⟩ := h
  exact ⟨n, c, h1, by omega⟩
theorem Ps_app {E : Nat → Nat → Nat → Prop} {u t v : Nat} {x y : Int} (h : Ps E u t x) (g : Ps E t v y) : Ps E u v (x + y) := by
  obtain ⟨n, c, h1, h2⟩ := h
  obtain ⟨n2, c2, g1, g2⟩ := g
  exact ⟨n + n2, c + c2, wk_app h1 g1, by rw [wv_add]; omega⟩
theorem Ps_e {E : Nat → Nat → Nat → Prop} {k u v : Nat} (h : E k u v) (hk : k ≤ 1) : Ps E u v (wt k) := by
  refine ⟨1, 1 - k, wk_one h hk, ?_⟩
  rcases (show k = 0 ∨ k = 1 by omega) with rfl | rfl
  · rw [wv_1]; decide
  · rw [wv_2]; decide
theorem Ps_mono {E F : Nat → Nat → Nat → Prop} (hEF : ∀ k u v, E k u v → F k u v) {u v : Nat} {x : Int} (h : Ps E u v x) : Ps F u v x := by
  obtain ⟨n, c, h1, h2⟩ := h
  exact ⟨n, c, wk_mono hEF h1, h2⟩
theorem Gd_Ps {E : Nat → Nat → Nat → Prop} (hG : Gd E) {u : Nat} {x : Int} (h : Ps E u u x) : x ≤ 0 := by
  obtain ⟨n, c, h1, h2⟩ := h
  rw [wv11] at h2
  cases n with
  | zero => obtain ⟨-, rfl⟩ := h1; omega
  | succ n => have := hG (n + 1) u c (by omega) h1; omega
theorem Gd_first {E : Nat → Nat → Nat → Prop} (hG : Gd E) {k u t : Nat} {x : Int} (hk : k ≤ 1) (he : E k u t) (h : Ps E t u x) : wt k + x < 0 := by
  obtain ⟨n, c, h1, h2⟩ := h
  have w := wk_app (wk_one he hk) h1
  have := hG _ _ _ (by omega) w
  rw [wv11] at h2
  rcases (show k = 0 ∨ k = 1 by omega) with rfl | rfl
  · unfold wt; rw [if_pos rfl]; omega
  · unfold wt; rw [if_neg (by decide)]; omega
theorem Gd_by {E : Nat → Nat → Nat → Prop} (H : ∀ k u t x, k ≤ 1 → E k u t → Ps E t u x → wt k + x < 0) : Gd E := by
  intro n u b hn hw
  cases n with
  | zero => omega
  | succ n =>
    obtain ⟨k, t, c, hk, he, hr, hv⟩ := wk_cons hw
    have := H k u t _ hk he ⟨n, c, hr, Int.le_refl _⟩
    rw [← hv, wv11] at this
    omega
theorem dir1 {E : Nat → Nat → Nat → Prop} {k a b : Nat} (hk : k ≤ 1) (hn : ¬ Ps E b a (-wt k)) : ∀ n u v c, wk (Ead E k a b) n u v c → Ps E u v (wv 1 (-1) n c) ∨ ∃ y z, Ps E u a y ∧ Ps E b v z ∧ wv 1 (-1) n c ≤ y + wt k + z := by
  intro n
  induction n with
  | zero =>
    intro u v c h
    obtain ⟨rfl, rfl⟩ := h
    rw [wv_0]
    exact Or.inl Ps_0
  | succ n ih =>
    intro u v c h
    obtain ⟨k2, t, d, hk2, he, hr, hv⟩ := wk_cons h
    have ih2 := ih t v d hr
    rw [hv]
    rcases he with he | ⟨rfl, rfl, rfl⟩
    · rcases ih2 with q | ⟨y, z, q1, q2, q3⟩
      · exact Or.inl (Ps_app (Ps_e he hk2) q)
      · exact Or.inr ⟨wt k2 + y, z, Ps_app (Ps_e he hk2) q1, q2, by omega⟩
    · rcases ih2 with q | ⟨y, z, q1, q2, q3⟩
      · exact Or.inr ⟨0, _, Ps_0, q, by omega⟩
      · have : ¬ -wt k2 ≤ y := fun g => hn (Ps_le q1 g)
        exact Or.inr ⟨0, z, Ps_0, q2, by omega⟩
theorem Ps_dir {E : Nat → Nat → Nat → Prop} {k a b : Nat} (hk : k ≤ 1) (hn : ¬ Ps E b a (-wt k)) {u v : Nat} {x : Int} : Ps (Ead E k a b) u v x ↔ Ps E u v x ∨ ∃ y z, Ps E u a y ∧ Ps E b v z ∧ x ≤ y + wt k + z := by
  constructor
  · rintro ⟨n, c, h1, h2⟩
    rcases dir1 hk hn n u v c h1 with q | ⟨y, z, q1, q2, q3⟩
    · exact Or.inl (Ps_le q h2)
    · exact Or.inr ⟨y, z, q1, q2, by omega⟩
  · have hm : ∀ k2 u v, E k2 u v → Ead E k a b k2 u v := fun _ _ _ h => Or.inl h
    rintro (h | ⟨y, z, q1, q2, q3⟩)
    · exact Ps_mono hm h
    · exact Ps_le (Ps_app (Ps_app (Ps_mono hm q1) (Ps_e (k := k) (Or.inr ⟨rfl, rfl, rfl⟩) hk)) (Ps_mono hm q2)) q3
theorem Gd_dir {E : Nat → Nat → Nat → Prop} (hG : Gd E) {k a b : Nat} (hk : k ≤ 1) (hn : ¬ Ps E b a (-wt k)) : Gd (Ead E k a b) := by
  have nb : ∀ y, Ps E b a y → y + wt k < 0 := fun y h => Int.not_le.mp (fun g => hn (Ps_le h (by omega)))
  refine Gd_by (fun k2 u t x hk2 he h => ?_)
  rcases (Ps_dir hk hn).mp h with q | ⟨y, z, q1, q2, q3⟩
  · rcases he with he | ⟨rfl, rfl, rfl⟩
    · exact Gd_first hG hk2 he q
    · have := nb _ q; omega
  · rcases he with he | ⟨rfl, rfl, rfl⟩
    · have := nb _ (Ps_app (Ps_app q2 (Ps_e he hk2)) q1); omega
    · have := nb _ q1
      have := nb _ q2
      omega
theorem Gd_dir_n {E : Nat → Nat → Nat → Prop} {k a b : Nat} (hk : k ≤ 1) (hn : Ps E b a (-wt k)) : ¬ Gd (Ead E k a b) := by
  intro q
  have := Gd_first q (k := k) (u := a) (t := b) hk (Or.inr ⟨rfl, rfl, rfl⟩) (Ps_mono (fun _ _ _ h => Or.inl h) hn)
  omega
def Ea2 (E : Nat → Nat → Nat → Prop) (k a b : Nat) : Nat → Nat → Nat → Prop := if k = 0 then Ead E 0 a b else Ead (Ead E 1 a b) 1 b a
theorem Ea2_0 {E : Nat → Nat → Nat → Prop} {a b : Nat} : Ea2 E 0 a b = Ead E 0 a b := if_pos rfl
theorem Ea2_1 {E : Nat → Nat → Nat → Prop} {a b : Nat} : Ea2 E 1 a b = Ead (Ead E 1 a b) 1 b a := if_neg (by decide)
theorem wt0 : wt 0 = 1 := rfl
theorem wt1 : wt 1 = -1 := rfl
theorem Ea2_le {E : Nat → Nat → Nat → Prop} {k a b : Nat} : ∀ k2 u v, E k2 u v → Ea2 E k a b k2 u v := by
  intro k2 u v h
  unfold Ea2
  split
  · exact Or.inl h
  · exact Or.inl (Or.inl h)
theorem Gd2_0 {E : Nat → Nat → Nat → Prop} (hG : Gd E) {a b : Nat} : Gd (Ea2 E 0 a b) ↔ ¬ Ps E b a (-1) := by
  rw [Ea2_0]
  constructor
  · intro h q
    exact Gd_dir_n (k := 0) (by decide) q h
  · exact fun h => Gd_dir hG (by decide) h
theorem Ps1_n {E : Nat → Nat → Nat → Prop} (hG : Gd E) {a b : Nat} (h1 : ¬ Ps E b a 1) (h2 : ¬ Ps E a b 1) : ¬ Ps (Ead E 1 a b) a b (-wt 1) := by
  rw [wt1, show -(-1 : Int) = 1 from rfl, Ps_dir (by decide) (by rw [wt1]; exact h1)]
  rintro (q | ⟨y, z, q1, q2, q3⟩)
  · exact h2 q
  · have := Gd_Ps hG q1
    have := Gd_Ps hG q2
    rw [wt1] at q3
    omega
theorem Gd2_1 {E : Nat → Nat → Nat → Prop} (hG : Gd E) {a b : Nat} : Gd (Ea2 E 1 a b) ↔ ¬ Ps E a b 1 ∧ ¬ Ps E b a 1 := by
  rw [Ea2_1]
  constructor
  · intro h
    have h1 : Gd (Ead E 1 a b) := Gd.mono (fun _ _ _ h => Or.inl h) h
    refine ⟨fun q => ?_, fun q => Gd_dir_n (k := 1) (by decide) q h1⟩
    exact Gd_dir_n (E := Ead E 1 a b) (k := 1) (by decide) (Ps_mono (fun _ _ _ h => Or.inl h) q) h
  · rintro ⟨h1, h2⟩
    exact Gd_dir (Gd_dir hG (by decide) h2) (by decide) (Ps1_n hG h2 h1)
/-! the sums with one more edge -/
theorem Smx.ge {E : Nat → Nat → Nat → Prop} {it : Nat} {M : Nat → Int} (h : Smx E it M) {u v : Nat} (hu : u < it) (hv : v < it) {x : Int} (hx : -1000000000 < x) : Ps E u v x ↔ x ≤ M (u * 8 + v) := by
  rw [← h u v hu hv x]
  constructor
  · exact fun q => (sv_ole q).2
  · exact fun q => ole_sv (by omega) q
def Ob (it : Nat) (M : Nat → Int) : Prop := ∀ j, j < 64 → ¬ (j / 8 < it ∧ j % 8 < it) → M j = lyB j
def GMx (E : Nat → Nat → Nat → Prop) (it : Nat) (M : Nat → Int) : Prop := In8 E it ∧ Gd E ∧ Smx E it M ∧ Ob it M
theorem Ps_b {E : Nat → Nat → Nat → Prop} {it : Nat} (hE : In8 E it) (hG : Gd E) {u v : Nat} {x : Int} (hu : u < it) (h : Ps E u v x) : x ≤ 7 ∧ Ps E u v (-7) := by
  obtain ⟨n, c, h1, h2⟩ := h
  obtain ⟨n2, b2, k1, k2, k3, k4⟩ := wk_short hE (p := 1) (q := -1) (fun n u b g1 g2 g3 => by have := hG n u b g1 g3; rw [wv11]; omega) n h1 hu
  have h8 := hE.1
  have := wk_le k3
  refine ⟨by rw [wv11] at k4; rw [wv11 n2] at k4; rw [wv11] at h2; omega, n2, b2, k3, ?_⟩
  rw [wv11]
  omega
theorem GMx.bd {E : Nat → Nat → Nat → Prop} {it : Nat} {M : Nat → Int} (h : GMx E it M) : Bd 100 M := by
  obtain ⟨hE, hG, hS, hO⟩ := h
  intro j hj
  by_cases e : j / 8 < it ∧ j % 8 < it
  · have e1 : j = j / 8 * 8 + j % 8 := by omega
    rw [e1]
    by_cases e2 : M (j / 8 * 8 + j % 8) = -1000000000
    · omega
    · have q := (hS (j / 8) (j % 8) e.1 e.2 (M (j / 8 * 8 + j % 8))).mp (ole_sv e2 (Int.le_refl _))
      obtain ⟨q1, q2⟩ := Ps_b hE hG e.1 q
      have := (hS.ge e.1 e.2 (x := -7) (by omega)).mp q2
      omega
  · rw [hO j hj e]
    unfold lyB
    split <;> omega
theorem sv_mx3 {N x y z c t : Int} (h : y ≠ N → z ≠ N → N < y + c + z) : ole t (sv N (if y = N ∨ z = N ∨ y + c + z ≤ x then x else y + c + z)) ↔ ole t (sv N x) ∨ ∃ y1 z1, ole y1 (sv N y) ∧ ole z1 (sv N z) ∧ t ≤ y1 + c + z1 := by
  by_cases hy : y = N
  · rw [if_pos (Or.inl hy)]
    constructor
    · exact Or.inl
    · rintro (q | ⟨y1, z1, q1, q2, q3⟩)
      · exact q
      · exact absurd hy (sv_ole q1).1
  · by_cases hz : z = N
    · rw [if_pos (Or.inr (Or.inl hz))]
      constructor
      · exact Or.inl
      · rintro (q | ⟨y1, z1, q1, q2, q3⟩)
        · exact q
        · exact absurd hz (sv_ole q2).1
    · have hs := h hy hz
      by_cases hx : y + c + z ≤ x
      · rw [if_pos (Or.inr (Or.inr hx))]
        constructor
        · exact Or.inl
        · rintro (q | ⟨y1, z1, q1, q2, q3⟩)
          · exact q
          · have := (sv_ole q1).2
            have := (sv_ole q2).2
            exact ole_sv (by omega) (by omega)
      · rw [if_neg (by rintro (q | q | q) <;> omega)]
        constructor
        · intro q
          exact Or.inr ⟨y, z, ole_sv hy (Int.le_refl _), ole_sv hz (Int.le_refl _), (sv_ole q).2⟩
        · rintro (q | ⟨y1, z1, q1, q2, q3⟩)
          · have := (sv_ole q).2
            exact ole_sv (by omega) (by omega)
          · have := (sv_ole q1).2
            have := (sv_ole q2).2
            exact ole_sv (by omega) (by omega)
theorem lkF_y {M : Nat → Int} {it x y : Nat} {c : Int} (hx : x < 8) (h : M (y * 8 + x) = -1000000000 ∨ M (y * 8 + x) + c ≤ 0) : ∀ n v, v < 8 → lkF M it x y c n (y * 8 + v) = M (y * 8 + v)
  | 0, _, _ => rfl
  | n + 1, v, hv => by
    have ih := lkF_y (it := it) hx h n v hv
    have ihx := lkF_y (it := it) hx h n x hx
    rw [lkF]
    split
    · exact ih
    · rename_i g
      by_cases e : y = n
      · subst e
        unfold rrw
        rw [show (y * 8 + v) / 8 = y by omega, show (y * 8 + v) % 8 = v by omega]
        rw [ihx] at g
        rw [ihx, ih]
        split
        · split
          · rfl
          · omega
        · rfl
      · rw [rrw_other (by omega)]; exact ih
theorem lkF_row {M : Nat → Int} {it x y : Nat} {c : Int} (hx : x < 8) (h8 : it ≤ 8) (h : M (y * 8 + x) = -1000000000 ∨ M (y * 8 + x) + c ≤ 0) : ∀ n u v, u < n → v < it → lkF M it x y c n (u * 8 + v) = (if M (u * 8 + x) = -1000000000 ∨ M (y * 8 + v) = -1000000000 ∨ M (u * 8 + x) + c + M (y * 8 + v) ≤ M (u * 8 + v) then M (u * 8 + v) else M (u * 8 + x) + c + M (y * 8 + v))
  | 0, u, v, hu, _ => absurd hu (Nat.not_lt_zero u)
  | n + 1, u, v, hu, hv => by
    rw [lkF]
    by_cases e : u = n
    · subst e
      have e1 : lkF M it x y c u (u * 8 + x) = M (u * 8 + x) := lkF_at u (by omega)
      have e2 := lkF_y (it := it) hx h u v (by omega)
      have e3 : lkF M it x y c u (u * 8 + v) = M (u * 8 + v) := lkF_at u (by omega)
      rw [e1]
      by_cases e4 : M (u * 8 + x) = -1000000000
      · rw [if_pos e4, if_pos (Or.inl e4), e3]
      · rw [if_neg e4]
        unfold rrw
        rw [show (u * 8 + v) / 8 = u by omega, show (u * 8 + v) % 8 = v by omega, if_pos ⟨rfl, hv⟩, e2, e3]
        by_cases e5 : M (y * 8 + v) = -1000000000 ∨ M (u * 8 + x) + c + M (y * 8 + v) ≤ M (u * 8 + v)
        · rw [if_pos e5, if_pos (Or.inr e5)]
        · rw [if_neg e5, if_neg (fun q => q.elim e4 e5)]
    · rw [← lkF_row hx h8 h n u v (by omega) hv]
      split
      · rfl
      · exact rrw_other (by omega)
theorem lkF_ob {M : Nat → Int} {it x y : Nat} {c : Int} (h : Ob it M) : ∀ n, n ≤ it → Ob it (lkF M it x y c n)
  | 0, _ => h
  | n + 1, hn => by
    intro j hj g
    have ih := lkF_ob (x := x) (y := y) (c := c) h n (by omega) j hj g
    rw [lkF]
    split
    · exact ih
    · unfold rrw
      rw [if_neg (fun q => g ⟨by omega, q.2⟩)]
      exact ih
theorem Ead_in {E : Nat → Nat → Nat → Prop} {it k a b : Nat} (hE : In8 E it) (ha : a < it) (hb : b < it) : In8 (Ead E k a b) it := by
  refine ⟨hE.1, ?_⟩
  rintro k2 u v (h | ⟨-, rfl, rfl⟩)
  · exact hE.2 _ _ _ h
  · exact ⟨ha, hb⟩
theorem GMx.lk {E : Nat → Nat → Nat → Prop} {it k a b : Nat} {M : Nat → Int} (h : GMx E it M) (hk : k ≤ 1) (ha : a < it) (hb : b < it) (hn : ¬ Ps E b a (-wt k)) : GMx (Ead E k a b) it (lkF M it a b (wt k) it) := by
  have hbd := h.bd
  obtain ⟨hE, hG, hS, hO⟩ := h
  have h8 := hE.1
  have hwt := wt_b k
  have hc : M (b * 8 + a) = -1000000000 ∨ M (b * 8 + a) + wt k ≤ 0 := by
    have := (hS.ge hb ha (x := -wt k) (by omega))
    by_cases q : -wt k ≤ M (b * 8 + a)
    · exact absurd (this.mpr q) hn
    · omega
  refine ⟨Ead_in hE ha hb, Gd_dir hG hk hn, fun u v hu hv x => ?_, lkF_ob hO it (Nat.le_refl _)⟩
  rw [lkF_row (by omega) h8 hc it u v hu hv, Ps_dir hk hn]
  have b1 := hbd (u * 8 + a) (by omega)
  have b2 := hbd (b * 8 + v) (by omega)
  rw [sv_mx3 (by intro g1 g2; omega), hS u v hu hv x]
  constructor
  · rintro (q | ⟨y, z, q1, q2, q3⟩)
    · exact Or.inl q
    · exact Or.inr ⟨y, z, (hS u a hu ha y).mp q1, (hS b v hb hv z).mp q2, q3⟩
  · rintro (q | ⟨y, z, q1, q2, q3⟩)
    · exact Or.inl q
    · exact Or.inr ⟨y, z, (hS u a hu ha y).mpr q1, (hS b v hb hv z).mpr q2, q3⟩
theorem GMx.jn {E : Nat → Nat → Nat → Prop} {it k a b : Nat} {M : Nat → Int} (h : GMx E it M) (hk : k ≤ 1) (ha : a < it) (hb : b < it) (hn : Gd (Ea2 E k a b)) : GMx (Ea2 E k a b) it (jnF M it k a b) := by
  rcases (show k = 0 ∨ k = 1 by omega) with rfl | rfl
  · rw [Gd2_0 h.2.1] at hn
    rw [Ea2_0]
    unfold jnF
    rw [if_pos rfl]
    exact h.lk hk ha hb hn
  · rw [Gd2_1 h.2.1] at hn
    rw [Ea2_1]
    unfold jnF
    rw [if_neg (by decide)]
    exact (h.lk hk ha hb hn.2).lk hk hb ha (Ps1_n h.2.1 hn.2 hn.1)
theorem opt_bits {E : Nat → Nat → Nat → Prop} {it a b : Nat} {M : Nat → Int} (h : GMx E it M) (ha : a < it) (hb : b < it) : (opt M a b % 2 = 1 ↔ Gd (Ea2 E 0 a b)) ∧ (opt M a b / 2 % 2 = 1 ↔ Gd (Ea2 E 0 b a)) ∧ (opt M a b / 4 % 2 = 1 ↔ Gd (Ea2 E 1 a b)) := by
  obtain ⟨hE, hG, hS, hO⟩ := h
  rw [Gd2_0 hG, Gd2_0 hG, Gd2_1 hG, hS.ge hb ha (by decide), hS.ge ha hb (by decide), hS.ge ha hb (by decide), hS.ge hb ha (by decide)]
  unfold opt
  refine ⟨?_, ?_, ?_⟩
  · split <;> split <;> split <;> omega
  · split <;> split <;> split <;> omega
  · split <;> split <;> split <;> omega
theorem lyF_ob {φ : Fs} {w it : Nat} {p q : Int} (hS : Sm it φ) : ∀ n, n ≤ φ.length → Ob it (lyF φ w p q n)
  | 0, _ => fun j _ _ => rfl
  | n + 1, hn => by
    intro j hj g
    have ih := lyF_ob (w := w) (p := p) (q := q) hS n (by omega) j hj g
    have h8 := hS.1
    obtain ⟨g1, g2, g3, g4, g5⟩ := hS.2.2 n (by omega)
    rw [lyF]
    have e1 : j ≠ fi φ n * 8 + se φ n := fun e => g (by omega)
    have e2 : j ≠ se φ n * 8 + fi φ n := fun e => g (by omega)
    split
    · split
      · rw [fu_n e1]; exact ih
      · rw [fu_n e2, fu_n e1]; exact ih
    · exact ih
theorem clU_ob {M : Nat → Int} {it m : Nat} (h : Ob it M) : ∀ n, n ≤ it → Ob it (clU M it m n)
  | 0, _ => h
  | n + 1, hn => by
    intro j hj g
    have ih := clU_ob (m := m) h n (by omega) j hj g
    rw [clU]
    split
    · unfold rrw
      rw [if_neg (fun q => g ⟨by omega, q.2⟩)]
      exact ih
    · exact ih
theorem clM_ob {M : Nat → Int} {it : Nat} (h : Ob it M) : ∀ n, n ≤ it → Ob it (clM M it n)
  | 0, _ => h
  | n + 1, hn => clU_ob (clM_ob h n (by omega)) it (Nat.le_refl _)
theorem wgh_g {φ : Fs} {w it : Nat} (hS : Sm it φ) (hG : Gd (EF φ w)) : GMx (EF φ w) it (wgh φ w it) := ⟨EF_in hS, hG, wgh_P hS hG, clM_ob (lyF_ob hS _ (Nat.le_refl _)) it (Nat.le_refl _)⟩
/-! facts told and left out, as edges -/
theorem EF_app {φ : Fs} {k a b : Nat} (hk : k ≤ 1) (k2 u v : Nat) : EF (φ ++ [(k, a, b)]) 0 k2 u v ↔ Ea2 (EF φ 0) k a b k2 u v := by
  have key : EF (φ ++ [(k, a, b)]) 0 k2 u v ↔ EF φ 0 k2 u v ∨ (k2 = k ∧ ((u = a ∧ v = b) ∨ (k = 1 ∧ u = b ∧ v = a))) := by
    unfold EF
    rw [List.length_append, List.length_singleton, Ed_s]
    obtain ⟨e1, e2, e3⟩ := kd_last (φ := φ) (q := (k, a, b))
    rw [e1, e2, e3]
    constructor
    · rintro (⟨i, h1, h2, h3, h4⟩ | ⟨h2, h3, h4⟩)
      · obtain ⟨d1, d2, d3⟩ := kd_app (q := (k, a, b)) h1
        rw [d1] at h3
        rw [d2, d3] at h4
        exact Or.inl ⟨i, h1, h2, h3, h4⟩
      · refine Or.inr ⟨h3.symm, ?_⟩
        rcases h4 with ⟨q1, q2⟩ | ⟨q0, q1, q2⟩
        · exact Or.inl ⟨q1.symm, q2.symm⟩
        · exact Or.inr ⟨h3.trans q0, q1.symm, q2.symm⟩
    · rintro (⟨i, h1, h2, h3, h4⟩ | ⟨h3, h4⟩)
      · obtain ⟨d1, d2, d3⟩ := kd_app (q := (k, a, b)) h1
        exact Or.inl ⟨i, h1, h2, by rw [d1]; exact h3, by rw [d2, d3]; exact h4⟩
      · refine Or.inr ⟨by rw [Nat.zero_div], h3.symm, ?_⟩
        rcases h4 with ⟨q1, q2⟩ | ⟨q0, q1, q2⟩
        · exact Or.inl ⟨q1.symm, q2.symm⟩
        · exact Or.inr ⟨h3.trans q0, q1.symm, q2.symm⟩
  rw [key]
  rcases (show k = 0 ∨ k = 1 by omega) with rfl | rfl
  · rw [Ea2_0]
    unfold Ead
    constructor
    · rintro (h | ⟨h1, h2 | h2⟩)
      · exact Or.inl h
      · exact Or.inr ⟨h1, h2⟩
      · exact absurd h2.1 (by decide)
    · rintro (h | ⟨h1, h2⟩)
      · exact Or.inl h
      · exact Or.inr ⟨h1, Or.inl h2⟩
  · rw [Ea2_1]
    unfold Ead
    constructor
    · rintro (h | ⟨h1, h2 | h2⟩)
      · exact Or.inl (Or.inl h)
      · exact Or.inl (Or.inr ⟨h1, h2⟩)
      · exact Or.inr ⟨h1, h2.2⟩
    · rintro ((h | ⟨h1, h2⟩) | ⟨h1, h2⟩)
      · exact Or.inl h
      · exact Or.inr ⟨h1, Or.inl h2⟩
      · exact Or.inr ⟨h1, Or.inr ⟨rfl, h2⟩⟩
theorem Gd_ext {E F : Nat → Nat → Nat → Prop} (h : ∀ k u v, E k u v ↔ F k u v) : Gd E ↔ Gd F := ⟨Gd.mono (fun k u v => (h k u v).mpr), Gd.mono (fun k u v => (h k u v).mp)⟩
theorem Ps_ext {E F : Nat → Nat → Nat → Prop} (h : ∀ k u v, E k u v ↔ F k u v) {u v : Nat} {x : Int} : Ps E u v x ↔ Ps F u v x := ⟨Ps_mono (fun k u v => (h k u v).mp), Ps_mono (fun k u v => (h k u v).mpr)⟩
/-- GOOD facts -/
def Good (φ : Fs) : Prop := Gd (EF φ 0)
theorem Good_app {φ : Fs} {k a b : Nat} (hk : k ≤ 1) : Good (φ ++ [(k, a, b)]) ↔ Gd (Ea2 (EF φ 0) k a b) := Gd_ext (EF_app hk)
theorem GMx.ext {E F : Nat → Nat → Nat → Prop} (h : ∀ k u v, E k u v ↔ F k u v) {it : Nat} {M : Nat → Int} (g : GMx E it M) : GMx F it M := ⟨⟨g.1.1, fun k u v q => g.1.2 k u v ((h k u v).mpr q)⟩, (Gd_ext h).mp g.2.1, fun u v hu hv x => (g.2.2.1 u v hu hv x).trans (Ps_ext h), g.2.2.2⟩
