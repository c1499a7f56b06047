/-! facts as edges; the class's sums are the closure of the first sums -/
def Ed (φ : Fs) (w n k u v : Nat) : Prop := ∃ i, i < n ∧ w / 2 ^ i % 2 = 0 ∧ kd φ i = k ∧ ((fi φ i = u ∧ se φ i = v) ∨ (k = 1 ∧ se φ i = u ∧ fi φ i = v))
def EF (φ : Fs) (w : Nat) : Nat → Nat → Nat → Prop := Ed φ w φ.length
theorem Ed_s {φ : Fs} {w n k u v : Nat} : Ed φ w (n + 1) k u v ↔ Ed φ w n k u v ∨ (w / 2 ^ n % 2 = 0 ∧ kd φ n = k ∧ ((fi φ n = u ∧ se φ n = v) ∨ (k = 1 ∧ se φ n = u ∧ fi φ n = v))) := by
  constructor
  · rintro ⟨i, h1, h2, h3, h4⟩
    by_cases e : i = n
    · subst e; exact Or.inr ⟨h2, h3, h4⟩
    · exact Or.inl ⟨i, by omega, h2, h3, h4⟩
  · rintro (⟨i, h1, h2, h3, h4⟩ | ⟨h2, h3, h4⟩)
    · exact ⟨i, by omega, h2, h3, h4⟩
    · exact ⟨n, by omega, h2, h3, h4⟩
theorem EF_in {φ : Fs} {w it : Nat} (hS : Sm it φ) : In8 (EF φ w) it := by
  refine ⟨hS.1, ?_⟩
  rintro k u v ⟨i, h1, h2, h3, h4⟩
  obtain ⟨g1, g2, g3, g4, g5⟩ := hS.2.2 i h1
  rcases h4 with ⟨rfl, rfl⟩ | ⟨-, rfl, rfl⟩
  · exact ⟨g2, g3⟩
  · exact ⟨g3, g2⟩
theorem EF_ne {φ : Fs} {w it : Nat} (hS : Sm it φ) {k u v : Nat} (h : EF φ w k u v) : u ≠ v := by
  obtain ⟨i, h1, h2, h3, h4⟩ := h
  obtain ⟨g1, g2, g3, g4, g5⟩ := hS.2.2 i h1
  rcases h4 with ⟨rfl, rfl⟩ | ⟨-, rfl, rfl⟩
  · exact g4
  · exact fun e => g4 e.symm
theorem Sm_uq {φ : Fs} {it i j : Nat} (hS : Sm it φ) (hi : i < φ.length) (hj : j < φ.length) (h : (fi φ j = fi φ i ∧ se φ j = se φ i) ∨ (fi φ j = se φ i ∧ se φ j = fi φ i)) : i = j := by
  rcases Nat.lt_trichotomy i j with z | z | z
  · exact absurd (show _ ∨ _ by rcases h with ⟨a, b⟩ | ⟨a, b⟩; exact Or.inl ⟨a.symm, b.symm⟩; exact Or.inr ⟨b.symm, a.symm⟩) ((hS.2.2 j hj).2.2.2.2 i z)
  · exact z
  · exact absurd h ((hS.2.2 i hi).2.2.2.2 j z)
theorem EF_ex {φ : Fs} {w it : Nat} (hS : Sm it φ) {u v : Nat} (h : EF φ w 0 u v) : ¬ EF φ w 1 u v := by
  obtain ⟨i, h1, h2, h3, h4⟩ := h
  rintro ⟨j, k1, k2, k3, k4⟩
  have h5 : fi φ i = u ∧ se φ i = v := by
    rcases h4 with h | h
    · exact h
    · exact absurd h.1 (by decide)
  have e := Sm_uq hS h1 k1 (by
    rcases k4 with ⟨a, b⟩ | ⟨-, a, b⟩
    · exact Or.inl ⟨by omega, by omega⟩
    · exact Or.inr ⟨by omega, by omega⟩)
  subst e
  omega
noncomputable def A0 (E : Nat → Nat → Nat → Prop) (p q : Int) : Mx := fun a b => haveI := Classical.propDecidable (E 0 a b); haveI := Classical.propDecidable (E 1 a b); if a = b then some 0 else if E 0 a b then some p else if E 1 a b then some q else none
theorem A0_ext {E F : Nat → Nat → Nat → Prop} {p q : Int} {a b : Nat} (h : ∀ k, E k a b ↔ F k a b) : A0 E p q a b = A0 F p q a b := by
  unfold A0
  by_cases e : a = b
  · rw [if_pos e, if_pos e]
  · rw [if_neg e, if_neg e]
    by_cases e0 : E 0 a b
    · rw [if_pos e0, if_pos ((h 0).mp e0)]
    · rw [if_neg e0, if_neg (fun z => e0 ((h 0).mpr z))]
      by_cases e1 : E 1 a b
      · rw [if_pos e1, if_pos ((h 1).mp e1)]
      · rw [if_neg e1, if_neg (fun z => e1 ((h 1).mpr z))]
theorem A0_d {E : Nat → Nat → Nat → Prop} {p q : Int} {a : Nat} : A0 E p q a a = some 0 := if_pos rfl
theorem A0_0 {E : Nat → Nat → Nat → Prop} {p q : Int} {a b : Nat} (e : a ≠ b) (h : E 0 a b) : A0 E p q a b = some p := by unfold A0; rw [if_neg e, if_pos h]
theorem A0_1 {E : Nat → Nat → Nat → Prop} {p q : Int} {a b : Nat} (e : a ≠ b) (h0 : ¬ E 0 a b) (h : E 1 a b) : A0 E p q a b = some q := by unfold A0; rw [if_neg e, if_neg h0, if_pos h]
theorem A0_n {E : Nat → Nat → Nat → Prop} {p q : Int} {a b : Nat} (e : a ≠ b) (h0 : ¬ E 0 a b) (h : ¬ E 1 a b) : A0 E p q a b = none := by unfold A0; rw [if_neg e, if_neg h0, if_neg h]
theorem A0_ini {E : Nat → Nat → Nat → Prop} {p q : Int} (h1 : ∀ k u v, E k u v → u ≠ v) (h2 : ∀ u v, E 0 u v → ¬ E 1 u v) : Ini E p q (A0 E p q) := by
  refine ⟨fun a b x hx => ?_, fun a => by rw [A0_d]; exact ole_some.mpr (Int.le_refl _), fun a b h => by rw [A0_0 (h1 _ _ _ h) h]; exact ole_some.mpr (Int.le_refl _), fun a b h => by rw [A0_1 (h1 _ _ _ h) (fun z => h2 _ _ z h) h]; exact ole_some.mpr (Int.le_refl _)⟩
  by_cases e : a = b
  · subst e
    rw [A0_d] at hx
    cases hx
    exact Or.inl ⟨rfl, rfl⟩
  · by_cases e0 : E 0 a b
    · rw [A0_0 e e0] at hx
      cases hx
      exact Or.inr (Or.inl ⟨e0, rfl⟩)
    · by_cases e1 : E 1 a b
      · rw [A0_1 e e0 e1] at hx
        cases hx
        exact Or.inr (Or.inr ⟨e1, rfl⟩)
      · rw [A0_n e e0 e1] at hx
        cases hx
theorem EF_ini {φ : Fs} {w it : Nat} (hS : Sm it φ) {p q : Int} : Ini (EF φ w) p q (A0 (EF φ w) p q) := A0_ini (fun _ _ _ h => EF_ne hS h) (fun _ _ h => EF_ex hS h)
def sv (N z : Int) : Option Int := if z = N then none else some z
theorem sv_n {N : Int} : sv N N = none := if_pos rfl
theorem sv_s {N z : Int} (h : z ≠ N) : sv N z = some z := if_neg h
theorem ix8 {a b c d : Nat} (hb : b < 8) (hd : d < 8) (h : a * 8 + b = c * 8 + d) : a = c ∧ b = d := by omega
/-- first sums, fact by fact -/
theorem A0_step {φ : Fs} {w it n : Nat} (hS : Sm it φ) (hn : n < φ.length) {p q : Int} {a b : Nat} : A0 (Ed φ w (n + 1)) p q a b = (if w / 2 ^ n % 2 = 0 then (if kd φ n = 0 then (if a = fi φ n ∧ b = se φ n then some p else A0 (Ed φ w n) p q a b) else (if (a = fi φ n ∧ b = se φ n) ∨ (a = se φ n ∧ b = fi φ n) then some q else A0 (Ed φ w n) p q a b)) else A0 (Ed φ w n) p q a b) := by
  obtain ⟨g1, g2, g3, g4, g5⟩ := hS.2.2 n hn
  by_cases hw : w / 2 ^ n % 2 = 0
  · rw [if_pos hw]
    by_cases hk : kd φ n = 0
    · rw [if_pos hk]
      by_cases hab : a = fi φ n ∧ b = se φ n
      · rw [if_pos hab]
        exact A0_0 (by rw [hab.1, hab.2]; exact g4) (Ed_s.mpr (Or.inr ⟨hw, hk, Or.inl ⟨hab.1.symm, hab.2.symm⟩⟩))
      · rw [if_neg hab]
        refine A0_ext (fun k => ?_)
        rw [Ed_s]
        constructor
        · rintro (h | ⟨-, h1, h2 | h2⟩)
          · exact h
          · exact absurd ⟨h2.1.symm, h2.2.symm⟩ hab
          · omega
        · exact Or.inl
    · rw [if_neg hk]
      have hk1 : kd φ n = 1 := by omega
      by_cases hab : (a = fi φ n ∧ b = se φ n) ∨ (a = se φ n ∧ b = fi φ n)
      · rw [if_pos hab]
        have hne : a ≠ b := by rcases hab with ⟨r1, r2⟩ | ⟨r1, r2⟩ <;> omega
        refine A0_1 hne ?_ (Ed_s.mpr (Or.inr ⟨hw, hk1, ?_⟩))
        · rintro ⟨i, h1, h2, h3, h4⟩
          by_cases e : i = n
          · subst e; omega
          · have h5 : fi φ i = a ∧ se φ i = b := by
              rcases h4 with h | h
              · exact h
              · exact absurd h.1 (by decide)
            have := Sm_uq hS hn (show i < φ.length by omega) (by rcases hab with ⟨r1, r2⟩ | ⟨r1, r2⟩; exact Or.inl ⟨by omega, by omega⟩; exact Or.inr ⟨by omega, by omega⟩)
            omega
        · rcases hab with ⟨r1, r2⟩ | ⟨r1, r2⟩
          · exact Or.inl ⟨r1.symm, r2.symm⟩
          · exact Or.inr ⟨rfl, r1.symm, r2.symm⟩
      · rw [if_neg hab]
        refine A0_ext (fun k => ?_)
        rw [Ed_s]
        constructor
        · rintro (h | ⟨-, h1, h2 | h2⟩)
          · exact h
          · exact absurd (Or.inl ⟨h2.1.symm, h2.2.symm⟩) hab
          · exact absurd (Or.inr ⟨h2.2.1.symm, h2.2.2.symm⟩) hab
        · exact Or.inl
  · rw [if_neg hw]
    refine A0_ext (fun k => ?_)
    rw [Ed_s]
    constructor
    · rintro (h | ⟨h1, -⟩)
      · exact h
      · exact absurd h1 hw
    · exact Or.inl
theorem A0_nil {φ : Fs} {w : Nat} {p q : Int} {a b : Nat} : A0 (Ed φ w 0) p q a b = (if a = b then some 0 else none) := by
  by_cases e : a = b
  · subst e; rw [A0_d, if_pos rfl]
  · rw [if_neg e]
    exact A0_n e (fun ⟨i, h, _⟩ => absurd h (Nat.not_lt_zero i)) (fun ⟨i, h, _⟩ => absurd h (Nat.not_lt_zero i))
theorem lyF_A0 {φ : Fs} {w it : Nat} (hS : Sm it φ) {p q : Int} (hp : p ≠ -1000000000) (hq : q ≠ -1000000000) : ∀ n, n ≤ φ.length → ∀ a b, a < 8 → b < 8 → sv (-1000000000) (lyF φ w p q n (a * 8 + b)) = A0 (Ed φ w n) p q a b
  | 0, _, a, b, ha, hb => by
    rw [A0_nil]
    show sv _ (lyB (a * 8 + b)) = _
    unfold lyB
    rw [show (a * 8 + b) / 8 = a by omega, show (a * 8 + b) % 8 = b by omega]
    by_cases e : a = b
    · rw [if_pos e, if_pos e]; exact sv_s (by decide)
    · rw [if_neg e, if_neg e]; exact sv_n
  | n + 1, hn, a, b, ha, hb => by
    have ih := lyF_A0 (w := w) hS hp hq n (by omega) a b ha hb
    obtain ⟨g1, g2, g3, g4, g5⟩ := hS.2.2 n (by omega)
    have h8 := hS.1
    rw [A0_step hS (by omega), lyF]
    by_cases hw : w / 2 ^ n % 2 = 0
    · rw [if_pos hw, if_pos hw]
      by_cases hk : kd φ n = 0
      · rw [if_pos hk, if_pos hk]
        by_cases hab : a = fi φ n ∧ b = se φ n
        · rw [if_pos hab, hab.1, hab.2, fu_s]; exact sv_s hp
        · rw [if_neg hab, fu_n (fun e => hab (ix8 hb (by omega) e))]; exact ih
      · rw [if_neg hk, if_neg hk]
        by_cases hab : (a = fi φ n ∧ b = se φ n) ∨ (a = se φ n ∧ b = fi φ n)
        · rw [if_pos hab]
          rcases hab with ⟨r1, r2⟩ | ⟨r1, r2⟩
          · rw [r1, r2, fu_n (by omega), fu_s]; exact sv_s hq
          · rw [r1, r2, fu_s]; exact sv_s hq
        · rw [if_neg hab, fu_n (fun e => hab (Or.inr (ix8 hb (by omega) e))), fu_n (fun e => hab (Or.inl (ix8 hb (by omega) e)))]; exact ih
    · rw [if_neg hw, if_neg hw]; exact ih
/-! one pivot -/
theorem omx_none {a : Option Int} : omx a none = a := by cases a <;> rfl
theorem sv_mx {N x y z : Int} (h : y ≠ N → z ≠ N → N < y + z) : sv N (if y = N ∨ z = N ∨ y + z ≤ x then x else y + z) = omx (sv N x) (oad (sv N y) (sv N z)) := by
  by_cases hy : y = N
  · rw [if_pos (Or.inl hy), hy, sv_n]
    show _ = omx _ none
    rw [omx_none]
  · by_cases hz : z = N
    · rw [if_pos (Or.inr (Or.inl hz)), hz, sv_n, sv_s hy]
      show _ = omx _ none
      rw [omx_none]
    · have hs := h hy hz
      rw [sv_s hy, sv_s hz]
      show _ = omx _ (some (y + z))
      by_cases hx : y + z ≤ x
      · rw [if_pos (Or.inr (Or.inr hx)), sv_s (show x ≠ N by omega)]
        show _ = if x < y + z then some (y + z) else some x
        rw [if_neg (by omega)]
      · rw [if_neg (by rintro (q | q | q) <;> omega), sv_s (show y + z ≠ N by omega)]
        by_cases e : x = N
        · rw [e, sv_n]; rfl
        · rw [sv_s e]
          show _ = if x < y + z then some (y + z) else some x
          rw [if_pos (by omega)]
theorem pv_row {A : Mx} {m b : Nat} (hd : ∀ x, ole x (A m m) → x ≤ 0) : pv A m m b = A m b := by
  refine ole_ext (fun x => ?_)
  rw [ole_pv]
  constructor
  · rintro (h | ⟨y, z, h1, h2, h3⟩)
    · exact h
    · have := hd y h2; exact ole_le h3 (by omega)
  · exact Or.inl
theorem pv_col {A : Mx} {m a : Nat} (hd : ∀ x, ole x (A m m) → x ≤ 0) : pv A m a m = A a m := by
  refine ole_ext (fun x => ?_)
  rw [ole_pv]
  constructor
  · rintro (h | ⟨y, z, h1, h2, h3⟩)
    · exact h
    · have := hd z h3; exact ole_le h2 (by omega)
  · exact Or.inl
theorem clU_row {M : Nat → Int} {it m : Nat} (h8 : it ≤ 8) (hm : m < 8) : ∀ n a b, a < n → b < it → a ≠ m → clU M it m n (a * 8 + b) = (if M (a * 8 + m) = -1000000000 ∨ M (m * 8 + b) = -1000000000 ∨ M (a * 8 + m) + M (m * 8 + b) ≤ M (a * 8 + b) then M (a * 8 + b) else M (a * 8 + m) + M (m * 8 + b))
  | 0, a, b, ha, _, _ => absurd ha (Nat.not_lt_zero a)
  | n + 1, a, b, ha, hb, ham => by
    rw [clU]
    by_cases e : a = n
    · subst e
      have e1 : clU M it m a (a * 8 + m) = M (a * 8 + m) := clU_at a (Or.inl (by omega))
      have e2 : clU M it m a (m * 8 + b) = M (m * 8 + b) := clU_at a (Or.inr (by omega))
      have e3 : clU M it m a (a * 8 + b) = M (a * 8 + b) := clU_at a (Or.inl (by omega))
      rw [e1]
      by_cases e4 : M (a * 8 + m) = -1000000000
      · rw [if_neg (fun q => q.2 e4), if_pos (Or.inl e4), e3]
      · rw [if_pos ⟨ham, e4⟩]
        unfold rrw
        rw [show (a * 8 + b) / 8 = a by omega, show (a * 8 + b) % 8 = b by omega, if_pos ⟨rfl, hb⟩, e2, e3]
        by_cases e5 : M (m * 8 + b) = -1000000000 ∨ M (a * 8 + m) + M (m * 8 + b) ≤ M (a * 8 + b)
        · rw [if_pos e5, if_pos (Or.inr e5)]
        · rw [if_neg e5, if_neg (fun q => q.elim e4 e5)]
    · have ih := clU_row (M := M) h8 hm n a b (by omega) hb ham
      rw [← ih]
      split
      · exact rrw_other (by omega)
      · rfl
theorem rrw_mono {M : Nat → Int} {u m n : Nat} {more : Int} {j : Nat} : M j ≤ rrw M u more m n j := by
  unfold rrw
  split
  · split
    · exact Int.le_refl _
    · omega
  · exact Int.le_refl _
theorem clU_mono {M : Nat → Int} {it m j : Nat} : ∀ n, M j ≤ clU M it m n j
  | 0 => Int.le_refl _
  | n + 1 => by
    rw [clU]
    split
    · exact Int.le_trans (clU_mono n) rrw_mono
    · exact clU_mono n
theorem clU_pv {M : Nat → Int} {it m : Nat} {B : Int} (h8 : it ≤ 8) (hm : m < it) (hB : Bd B M) (h0 : 0 ≤ B ∧ B ≤ 100000) {A : Mx} (hA : ∀ a b, a < it → b < it → sv (-1000000000) (M (a * 8 + b)) = A a b) (hd : ∀ x, ole x (A m m) → x ≤ 0) : ∀ a b, a < it → b < it → sv (-1000000000) (clU M it m it (a * 8 + b)) = pv A m a b := by
  intro a b ha hb
  by_cases e : a = m
  · subst e
    rw [clU_at it (Or.inr (by omega)), hA a b ha hb, pv_row hd]
  · rw [clU_row h8 (by omega) it a b ha hb e]
    have b1 := hB (a * 8 + m) (by omega)
    have b2 := hB (m * 8 + b) (by omega)
    rw [sv_mx (by intro g1 g2; omega), hA a b ha hb, hA a m ha hm, hA m b hm hb]
    rfl
theorem cl_all {M : Nat → Int} {it : Nat} {B : Int} (h8 : it ≤ 8) (hB : Bd B M) (h0 : 0 ≤ B ∧ B ≤ 200) {A : Mx} (hA : ∀ a b, a < it → b < it → sv (-1000000000) (M (a * 8 + b)) = A a b) : ∀ n, n ≤ it → (∀ a b, a < it → b < it → sv (-1000000000) (clM M it n (a * 8 + b)) = fw A n a b) ∨ (¬ Dg (fw A it) it ∧ ∃ v, v < it ∧ 0 < clM M it n (v * 8 + v))
  | 0, _ => Or.inl hA
  | n + 1, hn => by
    rcases cl_all h8 hB h0 hA n (by omega) with ih | ⟨h1, v, h2, h3⟩
    · have hbd := clM_bd hB h0.1 n (by omega) h8
      have hp := p28 h0.1 h0.2 (show n ≤ 8 by omega)
      by_cases hd : ∀ x, ole x (fw A n n n) → x ≤ 0
      · exact Or.inl (clU_pv h8 (by omega) hbd (by omega) ih hd)
      · refine Or.inr ⟨fun q => hd (fun x hx => q n (by omega) x (fw_mono (by omega) hx)), n, by omega, ?_⟩
        have e := ih n n (by omega) (by omega)
        have h5 : ∃ x, ole x (fw A n n n) ∧ 0 < x := Classical.byContradiction (fun q => hd (fun x hx => Classical.byContradiction (fun g => q ⟨x, hx, by omega⟩)))
        obtain ⟨x, h6, h7⟩ := h5
        rw [← e] at h6
        obtain ⟨y, g1, g2⟩ := h6
        unfold sv at g1
        split at g1
        · cases g1
        · cases g1
          have := @clU_mono (clM M it n) it n (n * 8 + n) it
          show 0 < clU (clM M it n) it n it (n * 8 + n)
          omega
    · refine Or.inr ⟨h1, v, h2, ?_⟩
      have := @clU_mono (clM M it n) it n (v * 8 + v) it
      show 0 < clU (clM M it n) it n it (v * 8 + v)
      omega
theorem sv_ole {N z x : Int} (h : ole x (sv N z)) : z ≠ N ∧ x ≤ z := by
  obtain ⟨y, g1, g2⟩ := h
  unfold sv at g1
  split at g1
  · cases g1
  · cases g1; exact ⟨by assumption, g2⟩
theorem ole_sv {N z x : Int} (h : z ≠ N) (h2 : x ≤ z) : ole x (sv N z) := by rw [sv_s h]; exact ole_some.mpr h2
theorem cl_fin {M : Nat → Int} {it : Nat} {B : Int} (h8 : it ≤ 8) (hB : Bd B M) (h0 : 0 ≤ B ∧ B ≤ 200) {A : Mx} (hA : ∀ a b, a < it → b < it → sv (-1000000000) (M (a * 8 + b)) = A a b) : (reS (clM M it it) it ↔ Dg (fw A it) it) ∧ (Dg (fw A it) it → ∀ a b, a < it → b < it → sv (-1000000000) (clM M it it (a * 8 + b)) = fw A it a b) := by
  rcases cl_all h8 hB h0 hA it (Nat.le_refl it) with h | ⟨h1, v, h2, h3⟩
  · refine ⟨⟨fun q a ha x hx => ?_, fun q v hv => ?_⟩, fun _ => h⟩
    · rw [← h a a ha ha] at hx
      have := sv_ole hx
      have := q a ha
      omega
    · by_cases e : clM M it it (v * 8 + v) = -1000000000
      · omega
      · exact q v hv _ (by rw [← h v v hv hv]; exact ole_sv e (Int.le_refl _))
  · refine ⟨⟨fun q => ?_, fun q => absurd q h1⟩, fun q => absurd q h1⟩
    have := q v h2
    omega
/-- no ring above nothing, by a length -/
def Fe (φ : Fs) (w : Nat) (p q : Int) : Prop := ∀ n u b, wk (EF φ w) n u u b → wv p q n b ≤ 0
theorem str_fw {φ : Fs} {it : Nat} {L : Int} (hS : Sm it φ) (hL : 1 ≤ L ∧ L ≤ 60) : (reS (str φ L it) it ↔ Fe φ 0 L (1 - L)) ∧ (Fe φ 0 L (1 - L) → ∀ a b, a < it → b < it → sv (-1000000000) (str φ L it (a * 8 + b)) = fw (A0 (EF φ 0) L (1 - L)) it a b) := by
  have h8 := hS.1
  have h := cl_fin (M := lyF φ 0 L (1 - L) φ.length) h8 (lyF_bd (B := 60) (by omega) (by omega) (by omega) _) (by omega) (fun a b ha hb => lyF_A0 hS (p := L) (q := 1 - L) (by omega) (by omega) φ.length (Nat.le_refl _) a b (by omega) (by omega))
  have h2 := Dg_iff (EF_in (w := 0) hS) (EF_ini hS (p := L) (q := 1 - L))
  exact ⟨h.1.trans h2, fun q => h.2 (h2.mpr q)⟩
theorem wgh_fw {φ : Fs} {w it : Nat} (hS : Sm it φ) (hF : Fe φ w 1 (-1)) : ∀ a b, a < it → b < it → sv (-1000000000) (wgh φ w it (a * 8 + b)) = fw (A0 (EF φ w) 1 (-1)) it a b := by
  have h8 := hS.1
  have h := cl_fin (M := lyF φ w 1 (-1) φ.length) h8 (lyF_bd (B := 1) (by omega) (by omega) (by omega) _) (by omega) (fun a b ha hb => lyF_A0 hS (p := 1) (q := -1) (by omega) (by omega) φ.length (Nat.le_refl _) a b (by omega) (by omega))
  have h2 := Dg_iff (EF_in (w := w) hS) (EF_ini hS (p := 1) (q := -1))
  exact h.2 (h2.mpr hF)
/-! sums of walks: BEFORE 1, BESIDE -1 -/
def Ps (E : Nat → Nat → Nat → Prop) (u v : Nat) (x : Int) : Prop := ∃ n c, wk E n u v c ∧ x ≤ wv 1 (-1) n c
def Smx (E : Nat → Nat → Nat → Prop) (it : Nat) (M : Nat → Int) : Prop := ∀ u v, u < it → v < it → ∀ x, ole x (sv (-1000000000) (M (u * 8 + v))) ↔ Ps E u v x
theorem wv11 (n c : Nat) : wv 1 (-1) n c = 2 * (c : Int) - n := by unfold wv; omega
theorem Gd_fe {φ : Fs} {w : Nat} (h : Gd (EF φ w)) : Fe φ w 1 (-1) := by
  intro n u b hw
  rw [wv11]
  cases n with
  | zero => obtain ⟨-, rfl⟩ := hw; decide
  | succ n => have := h (n + 1) u b (by omega) hw; omega
theorem wgh_P {φ : Fs} {w it : Nat} (hS : Sm it φ) (hG : Gd (EF φ w)) : Smx (EF φ w) it (wgh φ w it) := by
  intro u v hu hv x
  rw [wgh_fw hS (Gd_fe hG) u v hu hv]
  have hI := EF_ini (w := w) hS (p := 1) (q := -1)
  have hE := EF_in (w := w) hS
  constructor
  · exact fun h => (hI.rz.fw it).ole h
  · rintro ⟨n, c, h1, h2⟩
    exact ole_le (fw_wk hE hI ((Dg_iff hE hI).mpr (Gd_fe hG)) h1) h2
