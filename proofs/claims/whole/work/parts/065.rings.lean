/-! rings: sums of just so many facts -/
theorem EF_tgt {φ : Fs} {w it k u v : Nat} (hS : Sm it φ) : EF φ w k u v ↔ ∃ i, i < φ.length ∧ w / 2 ^ i % 2 = 0 ∧ kd φ i = k ∧ tgt φ i u = (v : Int) := by
  constructor
  · rintro ⟨i, h1, h2, h3, h4⟩
    obtain ⟨g1, g2, g3, g4, g5⟩ := hS.2.2 i h1
    refine ⟨i, h1, h2, h3, ?_⟩
    unfold tgt
    rcases h4 with ⟨r1, r2⟩ | ⟨r0, r1, r2⟩
    · rw [if_pos (by omega)]; omega
    · rw [if_neg (by omega), if_pos ⟨by omega, by omega⟩]; omega
  · rintro ⟨i, h1, h2, h3, h4⟩
    refine ⟨i, h1, h2, h3, ?_⟩
    unfold tgt at h4
    split at h4
    · exact Or.inl ⟨by omega, by omega⟩
    · split at h4
      · exact Or.inr ⟨by omega, by omega, by omega⟩
      · omega
theorem mxK_ge {φ : Fs} {w : Nat} {b : Nat → Int} {p : Nat} : ∀ c k, k < c → w / 2 ^ k % 2 = 0 → ¬ tgt φ k p = -1 → ¬ b (tgt φ k p).toNat = -1000000000 → b (tgt φ k p).toNat + wt (kd φ k) ≤ mxK φ w b p c
  | 0, k, h, _, _, _ => absurd h (Nat.not_lt_zero k)
  | c + 1, k, h, h1, h2, h3 => by
    rw [mxK]
    by_cases e : k = c
    · subst e
      split
      · exact Int.le_refl _
      · rename_i q
        exact Int.not_lt.mp (fun g => q ⟨h1, h2, h3, g⟩)
    · have ih := mxK_ge c k (by omega) h1 h2 h3
      split
      · omega
      · exact ih
theorem bst_P {φ : Fs} {w x it : Nat} (hS : Sm it φ) : ∀ l, l ≤ 100 → ∀ (p : Nat) (z : Int), ole z (sv (-1000000000) (bst φ w x l p)) ↔ ∃ c, wk (EF φ w) l p x c ∧ z ≤ wv 1 (-1) l c
  | 0, _, p, z => by
    rw [bst]
    constructor
    · intro h
      have := sv_ole h
      split at this
      · exact ⟨0, ⟨by assumption, rfl⟩, by rw [wv_0]; exact this.2⟩
      · exact absurd rfl this.1
    · rintro ⟨c, ⟨h1, h2⟩, h3⟩
      rw [if_pos h1]
      rw [h2, wv_0] at h3
      exact ole_sv (by decide) h3
  | l + 1, hl, p, z => by
    have ih := bst_P (w := w) (x := x) hS l (by omega)
    rw [bst]
    constructor
    · intro h
      obtain ⟨g1, g2⟩ := sv_ole h
      rcases @mxK_by φ w (bst φ w x l) p φ.length with q | ⟨k, q1, q2, q3, q4, q5⟩
      · exact absurd q g1
      · have htb := (tgt_b (p := (p : Int)) hS q1).resolve_left q3
        have he : EF φ w (kd φ k) p (tgt φ k p).toNat := (EF_tgt hS).mpr ⟨k, q1, q2, rfl, by omega⟩
        obtain ⟨c, w1, w2⟩ := (ih (tgt φ k p).toNat (bst φ w x l (tgt φ k p).toNat)).mp (ole_sv q4 (Int.le_refl _))
        have hk := (hS.2.2 k q1).1
        have w3 := wk_app (wk_one he hk) w1
        rw [Nat.add_comm 1 l] at w3
        refine ⟨_, w3, ?_⟩
        rw [wv11] at w2
        rw [wv11]
        rw [q5] at g2
        rcases (show kd φ k = 0 ∨ kd φ k = 1 by omega) with e | e
        · rw [e, wt0] at g2; rw [e]; omega
        · rw [e, wt1] at g2; rw [e]; omega
    · rintro ⟨c, h1, h2⟩
      obtain ⟨k, t, d, hk, he, hr, hv⟩ := wk_cons h1
      obtain ⟨i, i1, i2, i3, i4⟩ := (EF_tgt hS).mp he
      have h3 := sv_ole ((ih t (wv 1 (-1) l d)).mpr ⟨d, hr, Int.le_refl _⟩)
      have e : (tgt φ i p).toNat = t := by omega
      have h4 := mxK_ge (φ := φ) (w := w) (b := bst φ w x l) (p := p) φ.length i i1 i2 (by omega) (by rw [e]; exact h3.1)
      rw [e, i3] at h4
      have := wk_le hr
      have hwb := wt_b k
      rw [wv11] at h3
      rw [wv11 l d] at hv
      refine ole_sv ?_ ?_
      · omega
      · omega
theorem bst_b {φ : Fs} {w x it : Nat} (hS : Sm it φ) {l : Nat} (hl : l ≤ 100) (p : Nat) : bst φ w x l p = -1000000000 ∨ (-(l : Int) ≤ bst φ w x l p ∧ bst φ w x l p ≤ l) := by
  by_cases e : bst φ w x l p = -1000000000
  · exact Or.inl e
  · obtain ⟨c, h1, h2⟩ := (bst_P (w := w) (x := x) hS l hl p (bst φ w x l p)).mp (ole_sv e (Int.le_refl _))
    have := wk_le h1
    have h3 := (sv_ole ((bst_P (w := w) (x := x) hS l hl p (wv 1 (-1) l c)).mpr ⟨c, h1, Int.le_refl _⟩)).2
    rw [wv11] at h2 h3
    exact Or.inr ⟨by omega, by omega⟩
theorem hit_P {φ : Fs} {w k x y n it : Nat} (hS : Sm it φ) (hx : x < 8) (hy : y < 8) (hn : n ≤ 100) : hit φ w k x y n ↔ 1 ≤ n ∧ ∃ c, wk (EF φ w) n y x c ∧ 0 ≤ wv 1 (-1) n c + wt k := by
  unfold hit
  rw [fwL_bst hS hx n n (Nat.le_refl n) y hy]
  have hb := bst_P (w := w) (x := x) hS n hn y
  have hwb := wt_b k
  constructor
  · rintro ⟨h1, h2, h3⟩
    obtain ⟨c, g1, g2⟩ := (hb _).mp (ole_sv h2 (Int.le_refl _))
    exact ⟨h1, c, g1, by omega⟩
  · rintro ⟨h1, c, h2, h3⟩
    obtain ⟨g1, g2⟩ := sv_ole ((hb _).mpr ⟨c, h2, Int.le_refl _⟩)
    exact ⟨h1, g1, by omega⟩
theorem hit_lt {φ : Fs} {w k x y n it : Nat} (hS : Sm it φ) (hG : Gd (EF φ w)) (hx : x < it) (hy : y < it) (hne : x ≠ y) (hn : n ≤ 100) (h : hit φ w k x y n) (hno : ∀ j, j < n → ¬ hit φ w k x y j) : n < it := by
  have h8 := hS.1
  obtain ⟨h1, c, h2, h3⟩ := (hit_P hS (by omega) (by omega) hn).mp h
  refine Nat.not_le.mp (fun hge => ?_)
  obtain ⟨i, j, t, c1, c2, c3, hij, hj, w1, w2, w3, hb⟩ := wk_rep (EF_in hS) h2 hy hge
  have hg := hG (j - i) t c2 (by omega) w2
  have w4 := wk_app w1 w3
  have h0 : i + (n - j) ≠ 0 := fun e => by
    rw [e] at w4
    exact hne w4.1.symm
  refine hno (i + (n - j)) (by omega) ((hit_P hS (by omega) (by omega) (by omega)).mpr ⟨by omega, _, w4, ?_⟩)
  rw [wv11] at h3 ⊢
  omega
theorem hit_Ps {φ : Fs} {w k x y it : Nat} (hS : Sm it φ) (hG : Gd (EF φ w)) (hx : x < it) (hy : y < it) (hne : x ≠ y) : (∃ n, n < it ∧ hit φ w k x y n) ↔ Ps (EF φ w) y x (-wt k) := by
  have h8 := hS.1
  constructor
  · rintro ⟨n, h0, h⟩
    obtain ⟨h1, c, h2, h3⟩ := (hit_P hS (by omega) (by omega) (by omega)).mp h
    exact ⟨n, c, h2, by omega⟩
  · rintro ⟨n, c, h1, h2⟩
    obtain ⟨n2, b2, k1, k2, k3, k4⟩ := wk_short (EF_in hS) (p := 1) (q := -1) (fun n u b g1 g2 g3 => by have := hG n u b g1 g3; rw [wv11]; omega) n h1 hy
    refine ⟨n2, k1, (hit_P hS (by omega) (by omega) (by omega)).mpr ⟨?_, b2, k3, by omega⟩⟩
    cases n2 with
    | zero => exact absurd k3.1.symm hne
    | succ n2 => omega
theorem fews_eq {φ : Fs} {w it k x y n : Nat} (hn : n < it) (h : hit φ w k x y n) (hno : ∀ j, j < n → ¬ hit φ w k x y j) : fews φ w it k x y = n := by
  rcases fews_is φ w it k x y with ⟨-, g⟩ | ⟨g1, g2, g3, g4⟩
  · exact absurd h (g n hn)
  · rcases Nat.lt_trichotomy (fews φ w it k x y) n with z | z | z
    · exact absurd g3 (hno _ z)
    · exact z
    · exact absurd h (g4 n z)
theorem fews_0 {φ : Fs} {w it k x y : Nat} : fews φ w it k x y = 0 ↔ ∀ j, j < it → ¬ hit φ w k x y j := by
  rcases fews_is φ w it k x y with ⟨g0, g⟩ | ⟨g1, g2, g3, g4⟩
  · exact ⟨fun _ => g, fun _ => g0⟩
  · exact ⟨fun e => by omega, fun q => absurd g3 (q _ g2)⟩
theorem fews_ge {φ : Fs} {w it k x y n : Nat} (hno : ∀ j, j < n → ¬ hit φ w k x y j) : fews φ w it k x y = 0 ∨ n ≤ fews φ w it k x y := by
  rcases fews_is φ w it k x y with ⟨g0, g⟩ | ⟨g1, g2, g3, g4⟩
  · exact Or.inl g0
  · exact Or.inr (Nat.not_lt.mp (fun q => hno _ q g3))
theorem sk_first {φ : Fs} {w it k x y n : Nat} (hn : n < it) (h : hit φ w k x y n) (hno : ∀ j, j < n → ¬ hit φ w k x y j) (hno2 : k = 1 → ∀ j, j < n → ¬ hit φ w k y x j) : skN φ w it k x y = (n, x, y) := by
  have e := fews_eq hn h hno
  unfold skN
  rw [e, if_pos]
  refine ⟨by have := h.1; omega, ?_⟩
  split
  · rename_i hk; exact fews_ge (hno2 hk)
  · exact Or.inl rfl
theorem sk_second {φ : Fs} {w it k x y n : Nat} (hk : k = 1) (hn : n < it) (h : hit φ w k y x n) (hno : ∀ j, j < n → ¬ hit φ w k y x j) (hno2 : ∀ j, j ≤ n → ¬ hit φ w k x y j) : skN φ w it k x y = (n, y, x) := by
  have e := fews_eq hn h hno
  have h1 := h.1
  have g := fews_ge (it := it) (n := n + 1) (fun j hj => hno2 j (by omega))
  unfold skN
  rw [if_pos hk, e, if_neg]
  omega
theorem rfd_hit {φ : Fs} {w it k x y : Nat} : rfd φ w it k x y ↔ (∃ n, n < it ∧ hit φ w k x y n) ∨ (k = 1 ∧ ∃ n, n < it ∧ hit φ w k y x n) := by
  have e0 : ∀ x y, fews φ w it k x y ≠ 0 ↔ ∃ n, n < it ∧ hit φ w k x y n := fun x y => by
    rw [Ne, fews_0]
    constructor
    · intro q
      exact Classical.byContradiction (fun g => q (fun j hj hh => g ⟨j, hj, hh⟩))
    · rintro ⟨n, g1, g2⟩ q
      exact q n g1 g2
  rw [← e0, ← e0]
  unfold rfd skN
  by_cases hk : k = 1
  · rw [if_pos hk]
    split
    · dsimp only; omega
    · dsimp only; omega
  · rw [if_neg hk]
    split
    · dsimp only; omega
    · dsimp only; omega
theorem sk_none {φ : Fs} {w it k x y : Nat} (h1 : ∀ j, j < it → ¬ hit φ w k x y j) (h2 : k = 1 → ∀ j, j < it → ¬ hit φ w k y x j) : ¬ rfd φ w it k x y := by
  rw [rfd_hit]
  rintro (⟨n, g1, g2⟩ | ⟨hk, n, g1, g2⟩)
  · exact h1 n g1 g2
  · exact h2 hk n g1 g2
/-- REFUTED just if the facts with it would not be GOOD -/
theorem rfd_iff {φ : Fs} {w it k x y : Nat} (hS : Sm it φ) (hG : Gd (EF φ w)) (hk : k ≤ 1) (hx : x < it) (hy : y < it) (hne : x ≠ y) : rfd φ w it k x y ↔ ¬ Gd (Ea2 (EF φ w) k x y) := by
  rw [rfd_hit, hit_Ps hS hG hx hy hne, hit_Ps hS hG hy hx (Ne.symm hne)]
  rcases (show k = 0 ∨ k = 1 by omega) with rfl | rfl
  · rw [Gd2_0 hG, wt0]
    constructor
    · rintro (h | ⟨h, -⟩)
      · exact fun q => q h
      · omega
    · intro h
      exact Or.inl (Classical.byContradiction h)
  · rw [Gd2_1 hG, wt1]
    constructor
    · rintro (h | ⟨-, h⟩)
      · exact fun q => q.2 h
      · exact fun q => q.1 h
    · intro h
      by_cases g : Ps (EF φ w) y x (-(-1))
      · exact Or.inl g
      · exact Or.inr ⟨rfl, Classical.byContradiction (fun q => h ⟨q, g⟩)⟩
theorem cs_b {y : Int} {B : Int} (hB : B ≤ 1000) (h : y = -1000000000 ∨ (-B ≤ y ∧ y ≤ B)) : (cs y = -100000 ↔ y = -1000000000) ∧ (y ≠ -1000000000 → cs y = y) ∧ -100000 ≤ cs y ∧ cs y ≤ 1000 := by
  unfold cs
  split <;> omega
/-- the reference's best sums by so many facts -/
def BtP (φ : Fs) (x : Nat) (Bt : Nat → Int) : Prop := ∀ n p, n < 9 → p < 8 → Bt (n * 8 + p) = cs (bst φ 0 x n p)
