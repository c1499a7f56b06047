/-! walks over edges of two kinds (0: BEFORE, 1: BESIDE): n edges, b of them BEFORE -/
def wk (E : Nat → Nat → Nat → Prop) : Nat → Nat → Nat → Nat → Prop
  | 0, u, v, b => u = v ∧ b = 0
  | n + 1, u, v, b => ∃ t, (E 0 u t ∧ ∃ c, b = c + 1 ∧ wk E n t v c) ∨ (E 1 u t ∧ wk E n t v b)
def wv (p q : Int) (n b : Nat) : Int := q * n + (p - q) * b
theorem wv_add (p q : Int) (n b n2 b2 : Nat) : wv p q (n + n2) (b + b2) = wv p q n b + wv p q n2 b2 := by
  unfold wv
  rw [Int.natCast_add, Int.natCast_add, Int.mul_add, Int.mul_add]
  omega
theorem wv_0 (p q : Int) : wv p q 0 0 = 0 := by unfold wv; simp
theorem wv_1 (p q : Int) : wv p q 1 1 = p := by unfold wv; simp; omega
theorem wv_2 (p q : Int) : wv p q 1 0 = q := by unfold wv; simp
theorem wk_app {E : Nat → Nat → Nat → Prop} : ∀ {n u t b : Nat}, wk E n u t b → ∀ {n2 v b2 : Nat}, wk E n2 t v b2 → wk E (n + n2) u v (b + b2)
  | 0, u, t, b, h, n2, v, b2, h2 => by
    obtain ⟨rfl, rfl⟩ := h
    rw [Nat.zero_add, Nat.zero_add]
    exact h2
  | n + 1, u, t, b, h, n2, v, b2, h2 => by
    obtain ⟨x, ⟨e, c, hc, g⟩ | ⟨e, g⟩⟩ := h
    · rw [show n + 1 + n2 = n + n2 + 1 by omega]
      exact ⟨x, Or.inl ⟨e, c + b2, by omega, wk_app g h2⟩⟩
    · rw [show n + 1 + n2 = n + n2 + 1 by omega]
      exact ⟨x, Or.inr ⟨e, wk_app g h2⟩⟩
theorem wk_le {E : Nat → Nat → Nat → Prop} : ∀ {n u v b : Nat}, wk E n u v b → b ≤ n
  | 0, u, v, b, h => by have := h.2; omega
  | n + 1, u, v, b, h => by
    obtain ⟨x, ⟨e, c, hc, g⟩ | ⟨e, g⟩⟩ := h
    · have := wk_le g; omega
    · have := wk_le g; omega
theorem wk_mono {E F : Nat → Nat → Nat → Prop} (hEF : ∀ k u v, E k u v → F k u v) : ∀ {n u v b : Nat}, wk E n u v b → wk F n u v b
  | 0, u, v, b, h => h
  | n + 1, u, v, b, h => by
    obtain ⟨x, ⟨e, c, hc, g⟩ | ⟨e, g⟩⟩ := h
    · exact ⟨x, Or.inl ⟨hEF _ _ _ e, c, hc, wk_mono hEF g⟩⟩
    · exact ⟨x, Or.inr ⟨hEF _ _ _ e, wk_mono hEF g⟩⟩
theorem wk_one {E : Nat → Nat → Nat → Prop} {k u v : Nat} (h : E k u v) (hk : k ≤ 1) : wk E 1 u v (1 - k) := by
  rcases (show k = 0 ∨ k = 1 by omega) with rfl | rfl
  · exact ⟨v, Or.inl ⟨h, 0, rfl, rfl, rfl⟩⟩
  · exact ⟨v, Or.inr ⟨h, rfl, rfl⟩⟩
/-- a walk's items one by one, and how many BEFORE lie ahead of each -/
theorem wk_path {E : Nat → Nat → Nat → Prop} : ∀ {n u v b : Nat}, wk E n u v b → ∃ f c : Nat → Nat, f 0 = u ∧ f n = v ∧ c 0 = 0 ∧ c n = b ∧ ∀ i j, i ≤ j → j ≤ n → c i ≤ c j ∧ wk E (j - i) (f i) (f j) (c j - c i)
  | 0, u, v, b, h => by
    obtain ⟨rfl, rfl⟩ := h
    refine ⟨fun _ => u, fun _ => 0, rfl, rfl, rfl, rfl, fun i j h1 h2 => ⟨Nat.le_refl _, ?_⟩⟩
    rw [show j - i = 0 by omega]
    exact ⟨rfl, rfl⟩
  | n + 1, u, v, b, h => by
    have key : ∃ t d b2, d ≤ 1 ∧ b = b2 + d ∧ wk E 1 u t d ∧ wk E n t v b2 := by
      obtain ⟨x, ⟨e, c, hc, g⟩ | ⟨e, g⟩⟩ := h
      · exact ⟨x, 1, c, Nat.le_refl _, hc, wk_one e (by decide), g⟩
      · exact ⟨x, 0, b, by decide, rfl, wk_one e (Nat.le_refl 1), g⟩
    obtain ⟨t, d, b2, hd, hb, h1, h2⟩ := key
    obtain ⟨f, c, g1, g2, g3, g4, g5⟩ := wk_path h2
    refine ⟨fun i => if i = 0 then u else f (i - 1), fun i => if i = 0 then 0 else c (i - 1) + d, rfl, ?_, rfl, ?_, fun i j hij hj => ?_⟩
    · show (if n + 1 = 0 then u else f (n + 1 - 1)) = v
      rw [if_neg (by omega), Nat.add_sub_cancel]; exact g2
    · show (if n + 1 = 0 then 0 else c (n + 1 - 1) + d) = b
      rw [if_neg (by omega), Nat.add_sub_cancel, g4, hb]
    · try dsimp only
      by_cases e : i = 0
      · subst e
        by_cases e2 : j = 0
        · subst e2
          refine ⟨Nat.le_refl _, ?_⟩
          exact ⟨rfl, rfl⟩
        · rw [if_pos rfl, if_pos rfl, if_neg e2, if_neg e2]
          obtain ⟨q1, q2⟩ := g5 0 (j - 1) (by omega) (by omega)
          rw [g1, g3] at q2
          refine ⟨Nat.zero_le _, ?_⟩
          have := wk_app h1 q2
          rw [show j - 0 = 1 + (j - 1 - 0) by omega, show c (j - 1) + d - 0 = d + (c (j - 1) - 0) by omega]
          exact this
      · rw [if_neg e, if_neg e, if_neg (by omega), if_neg (by omega)]
        obtain ⟨q1, q2⟩ := g5 (i - 1) (j - 1) (by omega) (by omega)
        refine ⟨by omega, ?_⟩
        rw [show j - i = j - 1 - (i - 1) by omega, show c (j - 1) + d - (c (i - 1) + d) = c (j - 1) - c (i - 1) by omega]
        exact q2
def In8 (E : Nat → Nat → Nat → Prop) (it : Nat) : Prop := it ≤ 8 ∧ ∀ k u v, E k u v → u < it ∧ v < it
theorem wk_in {E : Nat → Nat → Nat → Prop} {it : Nat} (hE : In8 E it) : ∀ {n u v b : Nat}, wk E n u v b → u < it → v < it
  | 0, u, v, b, h, hu => by rw [← h.1]; exact hu
  | n + 1, u, v, b, h, hu => by
    obtain ⟨x, ⟨e, c, hc, g⟩ | ⟨e, g⟩⟩ := h
    · exact wk_in hE g (hE.2 _ _ _ e).2
    · exact wk_in hE g (hE.2 _ _ _ e).2
/-- a repeated item among the first it + 1 -/
theorem wk_rep {E : Nat → Nat → Nat → Prop} {it : Nat} (hE : In8 E it) {n u v b : Nat} (h : wk E n u v b) (hu : u < it) (hn : it ≤ n) : ∃ i j x c d e, i < j ∧ j ≤ it ∧ wk E i u x c ∧ wk E (j - i) x x d ∧ wk E (n - j) x v e ∧ b = c + d + e := by
  obtain ⟨f, c, g1, g2, g3, g4, g5⟩ := wk_path h
  have hf : ∀ i, i < it + 1 → f i < it := fun i hi => by
    have := (g5 0 i (by omega) (by omega)).2
    rw [g1] at this
    exact wk_in hE this hu
  have hne : ¬ ∀ i j, i < it + 1 → j < it + 1 → f i = f j → i = j := fun q => by
    have := php it (it + 1) f hf q
    omega
  have hex : ∃ i j, i < j ∧ j < it + 1 ∧ f i = f j := by
    apply Classical.byContradiction
    intro q
    apply hne
    intro i j hi hj e
    rcases Nat.lt_trichotomy i j with z | z | z
    · exact absurd ⟨i, j, z, hj, e⟩ q
    · exact z
    · exact absurd ⟨j, i, z, hi, e.symm⟩ q
  obtain ⟨i, j, hij, hj, e⟩ := hex
  have a1 := g5 0 i (by omega) (by omega)
  have a2 := g5 i j (by omega) (by omega)
  have a3 := g5 j n (by omega) (by omega)
  rw [g1, g3] at a1
  rw [g4, g2] at a3
  rw [← e] at a2 a3
  exact ⟨i, j, f i, c i - 0, c j - c i, b - c j, hij, by omega, a1.2, a2.2, a3.2, by omega⟩
/-- what holds of short rings makes every walk no better than a short one -/
theorem wk_short {E : Nat → Nat → Nat → Prop} {it : Nat} (hE : In8 E it) {p q : Int} (H : ∀ n u b, 1 ≤ n → n ≤ 8 → wk E n u u b → wv p q n b ≤ 0) : ∀ (n : Nat) {u v b : Nat}, wk E n u v b → u < it → ∃ n2 b2, n2 < it ∧ n2 ≤ n ∧ wk E n2 u v b2 ∧ wv p q n b ≤ wv p q n2 b2 := by
  intro n
  induction n using Nat.strongRecOn with
  | ind n ih =>
    intro u v b h hu
    by_cases hn : n < it
    · exact ⟨n, b, hn, Nat.le_refl _, h, Int.le_refl _⟩
    · obtain ⟨i, j, x, c, d, e, hij, hj, w1, w2, w3, hb⟩ := wk_rep hE h hu (by omega)
      have h8 := hE.1
      have hH := H (j - i) x d (by omega) (by omega) w2
      have w4 := wk_app w1 w3
      obtain ⟨n2, b2, k1, k2, k3, k4⟩ := ih (i + (n - j)) (by omega) w4 hu
      refine ⟨n2, b2, k1, by omega, k3, ?_⟩
      have e1 : wv p q n b = wv p q (i + (n - j)) (c + e) + wv p q (j - i) d := by
        rw [← wv_add, show i + (n - j) + (j - i) = n by omega, show c + e + d = b by omega]
      omega
theorem wk_ring {E : Nat → Nat → Nat → Prop} {it : Nat} (hE : In8 E it) {p q : Int} (H : ∀ n u b, 1 ≤ n → n ≤ 8 → wk E n u u b → wv p q n b ≤ 0) {n u b : Nat} (h : wk E n u u b) : wv p q n b ≤ 0 := by
  cases n with
  | zero => obtain ⟨-, rfl⟩ := h; rw [wv_0]; exact Int.le_refl _
  | succ n =>
    have hu : u < it := by
      obtain ⟨x, ⟨e, c, hc, g⟩ | ⟨e, g⟩⟩ := h
      · exact (hE.2 _ _ _ e).1
      · exact (hE.2 _ _ _ e).1
    obtain ⟨n2, b2, k1, k2, k3, k4⟩ := wk_short hE H _ h hu
    have h8 := hE.1
    cases n2 with
    | zero => obtain ⟨-, rfl⟩ := k3; rw [wv_0] at k4; exact k4
    | succ n2 => exact Int.le_trans k4 (H _ _ _ (by omega) (by omega) k3)
/-- GOOD: each ring has fewer BEFORE than BESIDE -/
def Gd (E : Nat → Nat → Nat → Prop) : Prop := ∀ n u b, 1 ≤ n → wk E n u u b → 2 * b < n
theorem Gd_of8 {E : Nat → Nat → Nat → Prop} {it : Nat} (hE : In8 E it) (H : ∀ n u b, 1 ≤ n → n ≤ 8 → wk E n u u b → 2 * b < n) : Gd E := by
  intro n u b hn h
  have := wk_ring hE (p := 10) (q := -8) (fun n u b h1 h2 h3 => by have := H n u b h1 h2 h3; unfold wv; omega) h
  unfold wv at this
  omega
theorem Gd_iff {E : Nat → Nat → Nat → Prop} {it : Nat} (hE : In8 E it) : Gd E ↔ ∀ n u b, wk E n u u b → wv 10 (-8) n b ≤ 0 := by
  constructor
  · intro h n u b hw
    exact wk_ring hE (fun n u b h1 h2 h3 => by have := h n u b h1 h3; unfold wv; omega) hw
  · intro h n u b hn hw
    have := h n u b hw
    unfold wv at this
    omega
theorem Gd_L8 {E : Nat → Nat → Nat → Prop} {it : Nat} (hE : In8 E it) (h : Gd E) {n u b : Nat} (hw : wk E n u u b) : wv 8 (-7) n b ≤ 0 :=
  wk_ring hE (fun n u b h1 h2 h3 => by have := h n u b h1 h3; unfold wv; omega) hw
theorem Gd.mono {E F : Nat → Nat → Nat → Prop} (hEF : ∀ k u v, E k u v → F k u v) (h : Gd F) : Gd E := fun n u b hn hw => h n u b hn (wk_mono hEF hw)
/-! sums, none or a number; the closure, pivot by pivot -/
def ole (x : Int) (o : Option Int) : Prop := ∃ y, o = some y ∧ x ≤ y
noncomputable def omx (a b : Option Int) : Option Int := match a, b with
  | none, b => b
  | some x, none => some x
  | some x, some y => if x < y then some y else some x
def oad (a b : Option Int) : Option Int := match a, b with
  | some x, some y => some (x + y)
  | _, _ => none
abbrev Mx : Type := Nat → Nat → Option Int
noncomputable def pv (A : Mx) (c : Nat) : Mx := fun a b => omx (A a b) (oad (A a c) (A c b))
noncomputable def fw (A : Mx) : Nat → Mx
  | 0 => A
  | k + 1 => pv (fw A k) k
theorem ole_mx {x : Int} {a b : Option Int} : ole x (omx a b) ↔ ole x a ∨ ole x b := by
  unfold ole
  cases a with
  | none => simp [omx]
  | some y =>
    cases b with
    | none => simp [omx]
    | some z =>
      simp only [omx]
      constructor
      · rintro ⟨w, h1, h2⟩
        split at h1
        · exact Or.inr ⟨w, h1, h2⟩
        · exact Or.inl ⟨w, h1, h2⟩
      · rintro (⟨w, h1, h2⟩ | ⟨w, h1, h2⟩)
        · cases h1
          split
          · exact ⟨z, rfl, by omega⟩
          · exact ⟨y, rfl, h2⟩
        · cases h1
          split
          · exact ⟨z, rfl, h2⟩
          · exact ⟨y, rfl, by omega⟩
theorem ole_ad {x : Int} {a b : Option Int} : ole x (oad a b) ↔ ∃ y z, x ≤ y + z ∧ ole y a ∧ ole z b := by
  unfold ole
  constructor
  · rintro ⟨w, h1, h2⟩
    cases a with
    | none => simp [oad] at h1
    | some y =>
      cases b with
      | none => simp [oad] at h1
      | some z =>
        simp only [oad, Option.some.injEq] at h1
        exact ⟨y, z, by omega, ⟨y, rfl, Int.le_refl _⟩, z, rfl, Int.le_refl _⟩
  · rintro ⟨y, z, h1, ⟨y2, rfl, h2⟩, z2, rfl, h3⟩
    exact ⟨y2 + z2, rfl, by omega⟩
theorem ole_pv {A : Mx} {c a b : Nat} {x : Int} : ole x (pv A c a b) ↔ ole x (A a b) ∨ ∃ y z, x ≤ y + z ∧ ole y (A a c) ∧ ole z (A c b) := by
  unfold pv
  rw [ole_mx, ole_ad]
theorem ole_some {x y : Int} : ole x (some y) ↔ x ≤ y := ⟨fun ⟨z, h, g⟩ => by cases h; exact g, fun h => ⟨y, rfl, h⟩⟩
theorem ole_le {x y : Int} {o : Option Int} (h : ole x o) (hy : y ≤ x) : ole y o := by
  obtain ⟨z, e, g⟩ := h
  exact ⟨z, e, by omega⟩
theorem ole_ext {a b : Option Int} (h : ∀ x, ole x a ↔ ole x b) : a = b := by
  cases a with
  | none =>
    cases b with
    | none => rfl
    | some y => obtain ⟨z, e, -⟩ := (h y).mpr ⟨y, rfl, Int.le_refl _⟩; cases e
  | some x =>
    cases b with
    | none => obtain ⟨z, e, -⟩ := (h x).mp ⟨x, rfl, Int.le_refl _⟩; cases e
    | some y =>
      have h1 := ole_some.mp ((h x).mp (ole_some.mpr (Int.le_refl _)))
      have h2 := ole_some.mp ((h y).mpr (ole_some.mpr (Int.le_refl _)))
      rw [Int.le_antisymm h1 h2]
theorem fw_mono {A : Mx} {a b : Nat} {x : Int} {k : Nat} : ∀ {l : Nat}, k ≤ l → ole x (fw A k a b) → ole x (fw A l a b)
  | 0, hl, h => by rw [show k = 0 by omega] at h; exact h
  | l + 1, hl, h => by
    by_cases e : k = l + 1
    · rw [← e]; exact h
    · exact ole_pv.mpr (Or.inl (fw_mono (show k ≤ l by omega) h))
/-- all of the diagonal is 0 or below -/
def Dg (A : Mx) (it : Nat) : Prop := ∀ a, a < it → ∀ x, ole x (A a a) → x ≤ 0
theorem Dg.back {A : Mx} {it k l : Nat} (h : Dg (fw A l) it) (hk : k ≤ l) : Dg (fw A k) it := fun a ha x hx => h a ha x (fw_mono hk hx)
/-- closed over the pivots below k -/
def Tr (A : Mx) (k : Nat) : Prop := ∀ c, c < k → ∀ a b x y, ole x (A a c) → ole y (A c b) → ole (x + y) (A a b)
theorem Tr_pv {A : Mx} {k : Nat} (h : Tr A k) (hd : ∀ x, ole x (A k k) → x ≤ 0) : Tr (pv A k) (k + 1) := by
  intro c hc a b x y hx hy
  rw [ole_pv] at hx hy ⊢
  by_cases e : c = k
  · subst e
    have hx2 : ole x (A a c) := by
      rcases hx with hx | ⟨y1, z1, q1, q2, q3⟩
      · exact hx
      · have := hd z1 q3; exact ole_le q2 (by omega)
    have hy2 : ole y (A c b) := by
      rcases hy with hy | ⟨y1, z1, q1, q2, q3⟩
      · exact hy
      · have := hd y1 q2; exact ole_le q3 (by omega)
    exact Or.inr ⟨x, y, Int.le_refl _, hx2, hy2⟩
  · have hc2 : c < k := by omega
    rcases hx with hx | ⟨y1, z1, q1, q2, q3⟩
    · rcases hy with hy | ⟨y2, z2, r1, r2, r3⟩
      · exact Or.inl (h c hc2 a b x y hx hy)
      · exact Or.inr ⟨x + y2, z2, by omega, h c hc2 a k x y2 hx r2, r3⟩
    · rcases hy with hy | ⟨y2, z2, r1, r2, r3⟩
      · exact Or.inr ⟨y1, z1 + y, by omega, q2, h c hc2 k b z1 y q3 hy⟩
      · have := hd _ (h c hc2 k k z1 y2 q3 r2)
        exact Or.inr ⟨y1, z2, by omega, q2, r3⟩
theorem Tr_fw {A : Mx} {it : Nat} (hd : Dg (fw A it) it) : ∀ k, k ≤ it → Tr (fw A k) k
  | 0, _ => fun c hc => absurd hc (Nat.not_lt_zero c)
  | k + 1, hk => Tr_pv (Tr_fw hd k (by omega)) (fun x hx => hd k (by omega) x (fw_mono (by omega) hx))
/-- the first sums: 0 from an item to itself, else an edge's weight -/
def Ini (E : Nat → Nat → Nat → Prop) (p q : Int) (A : Mx) : Prop := (∀ a b x, A a b = some x → (a = b ∧ x = 0) ∨ (E 0 a b ∧ x = p) ∨ (E 1 a b ∧ x = q)) ∧ (∀ a, ole 0 (A a a)) ∧ (∀ a b, E 0 a b → ole p (A a b)) ∧ ∀ a b, E 1 a b → ole q (A a b)
theorem omx_is {a b : Option Int} {x : Int} (h : omx a b = some x) : a = some x ∨ b = some x := by
  cases a with
  | none => exact Or.inr h
  | some y =>
    cases b with
    | none => exact Or.inl h
    | some z =>
      simp only [omx] at h
      split at h
      · exact Or.inr h
      · exact Or.inl h
theorem oad_is {a b : Option Int} {x : Int} (h : oad a b = some x) : ∃ y z, a = some y ∧ b = some z ∧ x = y + z := by
  cases a with
  | none => simp [oad] at h
  | some y =>
    cases b with
    | none => simp [oad] at h
    | some z =>
      simp only [oad, Option.some.injEq] at h
      exact ⟨y, z, rfl, rfl, h.symm⟩
/-- each sum is that of a walk -/
def Rz (E : Nat → Nat → Nat → Prop) (p q : Int) (A : Mx) : Prop := ∀ a b x, A a b = some x → ∃ n c, wk E n a b c ∧ wv p q n c = x
theorem Ini.rz {E : Nat → Nat → Nat → Prop} {p q : Int} {A : Mx} (h : Ini E p q A) : Rz E p q A := by
  intro a b x hx
  rcases h.1 a b x hx with ⟨rfl, rfl⟩ | ⟨e, rfl⟩ | ⟨e, rfl⟩
  · exact ⟨0, 0, ⟨rfl, rfl⟩, wv_0 p q⟩
  · exact ⟨1, 1, wk_one e (by decide), wv_1 x q⟩
  · exact ⟨1, 0, wk_one e (Nat.le_refl 1), wv_2 p x⟩
theorem Rz.pv {E : Nat → Nat → Nat → Prop} {p q : Int} {A : Mx} (h : Rz E p q A) (c : Nat) : Rz E p q (pv A c) := by
  intro a b x hx
  rcases omx_is hx with e | e
  · exact h a b x e
  · obtain ⟨y, z, e1, e2, e3⟩ := oad_is e
    obtain ⟨n1, c1, w1, v1⟩ := h _ _ _ e1
    obtain ⟨n2, c2, w2, v2⟩ := h _ _ _ e2
    exact ⟨n1 + n2, c1 + c2, wk_app w1 w2, by rw [wv_add, v1, v2, e3]⟩
theorem Rz.fw {E : Nat → Nat → Nat → Prop} {p q : Int} {A : Mx} (h : Rz E p q A) : ∀ k, Rz E p q (fw A k)
  | 0 => h
  | k + 1 => (Rz.fw h k).pv k
theorem Rz.ole {E : Nat → Nat → Nat → Prop} {p q : Int} {A : Mx} (h : Rz E p q A) {a b : Nat} {x : Int} (hx : ole x (A a b)) : ∃ n c, wk E n a b c ∧ x ≤ wv p q n c := by
  obtain ⟨y, e, hy⟩ := hx
  obtain ⟨n, c, w, v⟩ := h _ _ _ e
  exact ⟨n, c, w, by omega⟩
/-- a closed matrix is as great as every walk -/
theorem wk_ole {E : Nat → Nat → Nat → Prop} {it : Nat} (hE : In8 E it) {p q : Int} {A : Mx} (ht : Tr A it) (h0 : ∀ a, ole 0 (A a a)) (h1 : ∀ a b, E 0 a b → ole p (A a b)) (h2 : ∀ a b, E 1 a b → ole q (A a b)) : ∀ {n a b c : Nat}, wk E n a b c → ole (wv p q n c) (A a b)
  | 0, a, b, c, h => by
    obtain ⟨rfl, rfl⟩ := h
    rw [wv_0]; exact h0 a
  | n + 1, a, b, c, h => by
    obtain ⟨x, ⟨e, d, hd, g⟩ | ⟨e, g⟩⟩ := h
    · have ih := wk_ole hE ht h0 h1 h2 g
      rw [hd, show n + 1 = 1 + n by omega, show d + 1 = 1 + d by omega, wv_add, wv_1]
      exact ht x (hE.2 _ _ _ e).2 a b _ _ (h1 _ _ e) ih
    · have ih := wk_ole hE ht h0 h1 h2 g
      rw [show n + 1 = 1 + n by omega, show c = 0 + c by omega, wv_add, wv_2]
      exact ht x (hE.2 _ _ _ e).2 a b _ _ (h2 _ _ e) ih
theorem fw_wk {E : Nat → Nat → Nat → Prop} {it : Nat} (hE : In8 E it) {p q : Int} {A : Mx} (hI : Ini E p q A) (hd : Dg (fw A it) it) {n a b c : Nat} (h : wk E n a b c) : ole (wv p q n c) (fw A it a b) :=
  wk_ole hE (Tr_fw hd it (Nat.le_refl it)) (fun a => fw_mono (Nat.zero_le it) (hI.2.1 a)) (fun a b e => fw_mono (Nat.zero_le it) (hI.2.2.1 a b e)) (fun a b e => fw_mono (Nat.zero_le it) (hI.2.2.2 a b e)) h
/-- no ring above 0 just if the closure's diagonal has none -/
theorem Dg_iff {E : Nat → Nat → Nat → Prop} {it : Nat} (hE : In8 E it) {p q : Int} {A : Mx} (hI : Ini E p q A) : Dg (fw A it) it ↔ ∀ n u b, wk E n u u b → wv p q n b ≤ 0 := by
  constructor
  · intro hd n u b hw
    by_cases hu : u < it
    · exact hd u hu _ (fw_wk hE hI hd hw)
    · cases n with
      | zero => obtain ⟨-, rfl⟩ := hw; rw [wv_0]; exact Int.le_refl _
      | succ n =>
        obtain ⟨x, ⟨e, c, hc, g⟩ | ⟨e, g⟩⟩ := hw
        · exact absurd (hE.2 _ _ _ e).1 hu
        · exact absurd (hE.2 _ _ _ e).1 hu
  · intro h a ha x hx
    obtain ⟨n, c, w, v⟩ := (hI.rz.fw it).ole hx
    have := h n a c w
    omega
