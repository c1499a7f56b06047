/-! the reference's sums: the same closure, cell by cell -/
def wr (z : Int) : Int := (Int32.ofInt z).toInt
theorem vi_wr (z : Int) : vi z = vi (wr z) := by unfold vi wr; rw [Int32.ofInt_toInt]
theorem wr_r (z : Int) : -2147483648 ≤ wr z ∧ wr z ≤ 2147483647 := by
  have h1 := Int32.toInt_lt (Int32.ofInt z)
  have h2 := Int32.le_toInt (Int32.ofInt z)
  unfold wr
  omega
theorem wr_id {z : Int} (h : -2147483648 ≤ z ∧ z ≤ 2147483647) : wr z = z := iT h
def Rg (S : Nat → Int) : Prop := ∀ j, j < 64 → -2147483648 ≤ S j ∧ S j ≤ 2147483647
theorem lgF_s {S : Nat → Int} {j : Nat} {z : Int} : lgF S j z j = (if S j < z then z else S j) := by
  unfold lgF
  split
  · rw [fu_s]
  · rfl
theorem lgF_n {S : Nat → Int} {i j : Nat} {z : Int} (h : i ≠ j) : lgF S j z i = S i := by
  unfold lgF
  split
  · rw [fu_n h]
  · rfl
theorem lgF_mono {S : Nat → Int} {i j : Nat} {z : Int} : S i ≤ lgF S j z i := by
  by_cases e : i = j
  · subst e; rw [lgF_s]; split <;> omega
  · rw [lgF_n e]; exact Int.le_refl _
theorem Rg.lg {S : Nat → Int} (h : Rg S) {j : Nat} {z : Int} (hz : -2147483648 ≤ z ∧ z ≤ 2147483647) : Rg (lgF S j z) := by
  intro i hi
  have := h i hi
  by_cases e : i = j
  · subst e; rw [lgF_s]; split <;> omega
  · rw [lgF_n e]; exact this
/-- the first sums, fact by fact -/
def M0 (φ : Fs) (p q : Int) (n : Nat) (S : Nat → Int) : Prop := (∀ j, j < 64 → -100000 ≤ S j ∧ S j ≤ 100) ∧ ∀ a b, a < 8 → b < 8 → sv (-100000) (S (a * 8 + b)) = A0 (Ed φ 0 n) p q a b
theorem M0.nil {φ : Fs} {p q : Int} {S : Nat → Int} (h : ∀ a b, a < 8 → b < 8 → S (a * 8 + b) = if a = b then 0 else -100000) : M0 φ p q 0 S := by
  refine ⟨fun j hj => ?_, fun a b ha hb => ?_⟩
  · have := h (j / 8) (j % 8) (by omega) (by omega)
    rw [show j / 8 * 8 + j % 8 = j by omega] at this
    rw [this]
    split <;> omega
  · rw [h a b ha hb, A0_nil]
    split
    · exact sv_s (by decide)
    · exact sv_n
theorem bit0 {n : Nat} : 0 / 2 ^ n % 2 = 0 := by rw [Nat.zero_div]
theorem M0.free {φ : Fs} {p q : Int} {it n : Nat} {S : Nat → Int} (hS : Sm it φ) (hn : n < φ.length) (h : M0 φ p q n S) {a b : Nat} (hab : (a = fi φ n ∧ b = se φ n) ∨ (a = se φ n ∧ b = fi φ n)) : S (a * 8 + b) = -100000 := by
  obtain ⟨g1, g2, g3, g4, g5⟩ := hS.2.2 n hn
  have h8 := hS.1
  have e := h.2 a b (by omega) (by omega)
  have hno : ∀ k, ¬ Ed φ 0 n k a b := by
    rintro k ⟨i, h1, h2, h3, h4⟩
    have := Sm_uq hS hn (show i < φ.length by omega) (by
      rcases h4 with ⟨r1, r2⟩ | ⟨-, r1, r2⟩ <;> rcases hab with ⟨r3, r4⟩ | ⟨r3, r4⟩
      · exact Or.inl ⟨by omega, by omega⟩
      · exact Or.inr ⟨by omega, by omega⟩
      · exact Or.inr ⟨by omega, by omega⟩
      · exact Or.inl ⟨by omega, by omega⟩)
    omega
  rw [A0_n (by omega) (hno 0) (hno 1)] at e
  unfold sv at e
  split at e
  · assumption
  · cases e
theorem M0.s0 {φ : Fs} {p q : Int} {it n : Nat} {S : Nat → Int} (hS : Sm it φ) (hn : n < φ.length) (h : M0 φ p q n S) (hp : -100000 < p ∧ p ≤ 100) (hk : kd φ n = 0) : M0 φ p q (n + 1) (lgF S (fi φ n * 8 + se φ n) p) := by
  obtain ⟨g1, g2, g3, g4, g5⟩ := hS.2.2 n hn
  have h8 := hS.1
  have hf := h.free hS hn (a := fi φ n) (b := se φ n) (Or.inl ⟨rfl, rfl⟩)
  refine ⟨fun j hj => ?_, fun a b ha hb => ?_⟩
  · have := h.1 j hj
    by_cases e : j = fi φ n * 8 + se φ n
    · rw [e, lgF_s]; rw [e] at this; split <;> omega
    · rw [lgF_n e]; exact this
  · rw [A0_step hS hn, if_pos bit0, if_pos hk]
    by_cases hab : a = fi φ n ∧ b = se φ n
    · rw [if_pos hab, hab.1, hab.2, lgF_s, if_pos (by omega)]; exact sv_s (by omega)
    · rw [if_neg hab, lgF_n (fun e => hab (ix8 hb (by omega) e))]; exact h.2 a b ha hb
theorem M0.s1 {φ : Fs} {p q : Int} {it n : Nat} {S : Nat → Int} (hS : Sm it φ) (hn : n < φ.length) (h : M0 φ p q n S) (hq : -100000 < q ∧ q ≤ 100) (hk : ¬ kd φ n = 0) : M0 φ p q (n + 1) (lgF (lgF S (fi φ n * 8 + se φ n) q) (se φ n * 8 + fi φ n) q) := by
  obtain ⟨g1, g2, g3, g4, g5⟩ := hS.2.2 n hn
  have h8 := hS.1
  have hf := h.free hS hn (a := fi φ n) (b := se φ n) (Or.inl ⟨rfl, rfl⟩)
  have hf2 := h.free hS hn (a := se φ n) (b := fi φ n) (Or.inr ⟨rfl, rfl⟩)
  have hne : se φ n * 8 + fi φ n ≠ fi φ n * 8 + se φ n := by omega
  refine ⟨fun j hj => ?_, fun a b ha hb => ?_⟩
  · have := h.1 j hj
    by_cases e2 : j = se φ n * 8 + fi φ n
    · rw [e2, lgF_s, lgF_n hne]; rw [e2] at this; split <;> omega
    · rw [lgF_n e2]
      by_cases e : j = fi φ n * 8 + se φ n
      · rw [e, lgF_s]; rw [e] at this; split <;> omega
      · rw [lgF_n e]; exact this
  · rw [A0_step hS hn, if_pos bit0, if_neg hk]
    by_cases hab : (a = fi φ n ∧ b = se φ n) ∨ (a = se φ n ∧ b = fi φ n)
    · rw [if_pos hab]
      rcases hab with ⟨r1, r2⟩ | ⟨r1, r2⟩
      · rw [r1, r2, lgF_n hne.symm, lgF_s, if_pos (by omega)]; exact sv_s (by omega)
      · rw [r1, r2, lgF_s, lgF_n hne, if_pos (by omega)]; exact sv_s (by omega)
    · rw [if_neg hab, lgF_n (fun e => hab (Or.inr (ix8 hb (by omega) e))), lgF_n (fun e => hab (Or.inl (ix8 hb (by omega) e)))]; exact h.2 a b ha hb
/-! pivots -/
def Obd (B : Int) (A : Mx) : Prop := ∀ a b x, A a b = some x → -B ≤ x ∧ x ≤ B
theorem Obd.pv {B : Int} {A : Mx} (h0 : 0 ≤ B) (h : Obd B A) (c : Nat) : Obd (B + B) (pv A c) := by
  intro a b x hx
  rcases omx_is hx with e | e
  · have := h a b x e; omega
  · obtain ⟨y, z, e1, e2, e3⟩ := oad_is e
    have := h _ _ _ e1
    have := h _ _ _ e2
    omega
theorem Obd.fw {B : Int} {A : Mx} (h0 : 0 ≤ B) (h : Obd B A) : ∀ k, Obd (B * 2 ^ k) (fw A k)
  | 0 => by show Obd (B * 2 ^ 0) A; rw [Int.pow_zero, Int.mul_one]; exact h
  | k + 1 => by
    have hp : (0 : Int) < 2 ^ k := Int.pow_pos (by decide)
    have h1 := (Obd.fw h0 h k).pv (Int.mul_nonneg h0 (by omega)) k
    rw [Int.pow_succ, show B * (2 ^ k * 2) = B * 2 ^ k + B * 2 ^ k by rw [← Int.mul_assoc]; omega]
    exact h1
theorem A0_OB {E : Nat → Nat → Nat → Prop} {p q : Int} (hp : -60 ≤ p ∧ p ≤ 60) (hq : -60 ≤ q ∧ q ≤ 60) : Obd 60 (A0 E p q) := by
  intro a b x hx
  unfold A0 at hx
  split at hx
  · cases hx; omega
  · split at hx
    · cases hx; omega
    · split at hx
      · cases hx; omega
      · cases hx
def FS (A : Mx) (it c : Nat) (S : Nat → Int) : Prop := Rg S ∧ ((∀ a b, a < it → b < it → sv (-100000) (S (a * 8 + b)) = fw A c a b) ∨ (¬ Dg (fw A it) it ∧ ∃ v, v < it ∧ 0 < S (v * 8 + v)))
def FI (A : Mx) (it c a b : Nat) (S : Nat → Int) : Prop := Rg S ∧ (((∀ x, ole x (fw A c c c) → x ≤ 0) ∧ ∀ u v, u < it → v < it → sv (-100000) (S (u * 8 + v)) = if u < a ∨ (u = a ∧ v < b) then fw A (c + 1) u v else fw A c u v) ∨ (¬ Dg (fw A it) it ∧ ∃ v, v < it ∧ 0 < S (v * 8 + v)))
theorem FS.in {A : Mx} {it c : Nat} {S : Nat → Int} (h : FS A it c S) (hc : c < it) : FI A it c 0 0 S := by
  refine ⟨h.1, ?_⟩
  rcases h.2 with q | q
  · by_cases hd : ∀ x, ole x (fw A c c c) → x ≤ 0
    · refine Or.inl ⟨hd, fun u v hu hv => ?_⟩
      rw [if_neg (by omega)]
      exact q u v hu hv
    · refine Or.inr ⟨fun g => hd (fun x hx => g c hc x (fw_mono (by omega) hx)), c, hc, ?_⟩
      have h5 : ∃ x, ole x (fw A c c c) ∧ 0 < x := Classical.byContradiction (fun q => hd (fun x hx => Classical.byContradiction (fun g => q ⟨x, hx, by omega⟩)))
      obtain ⟨x, h6, h7⟩ := h5
      rw [← q c c hc hc] at h6
      have := sv_ole h6
      omega
  · exact Or.inr q
theorem FI.row {A : Mx} {it c a : Nat} {S : Nat → Int} (h : FI A it c a it S) : FI A it c (a + 1) 0 S := by
  refine ⟨h.1, ?_⟩
  rcases h.2 with ⟨q1, q2⟩ | q
  · refine Or.inl ⟨q1, fun u v hu hv => ?_⟩
    rw [q2 u v hu hv]
    by_cases e : u < a + 1
    · rw [if_pos (by omega), if_pos (by omega)]
    · rw [if_neg (by omega), if_neg (by omega)]
  · exact Or.inr q
theorem FI.out {A : Mx} {it c : Nat} {S : Nat → Int} (h : FI A it c it 0 S) : FS A it (c + 1) S := by
  refine ⟨h.1, ?_⟩
  rcases h.2 with ⟨q1, q2⟩ | q
  · refine Or.inl (fun u v hu hv => ?_)
    rw [q2 u v hu hv, if_pos (by omega)]
  · exact Or.inr q
theorem sv_is {N z x : Int} (h : sv N z = some x) : z = x ∧ z ≠ N := by
  unfold sv at h
  split at h
  · cases h
  · cases h; exact ⟨rfl, by assumption⟩
theorem fw_pc {A : Mx} {c a : Nat} (hd : ∀ x, ole x (fw A c c c) → x ≤ 0) : fw A (c + 1) a c = fw A c a c := pv_col hd
theorem fw_pr {A : Mx} {c b : Nat} (hd : ∀ x, ole x (fw A c c c) → x ≤ 0) : fw A (c + 1) c b = fw A c c b := pv_row hd
theorem p60 {c : Nat} (h : c < 8) : (60 : Int) * 2 ^ c ≤ 7680 := by
  have : ∀ c : Nat, c < 8 → (60 : Int) * 2 ^ c ≤ 7680 := by decide
  exact this c h
theorem FI.rd {A : Mx} {it c a b : Nat} {S : Nat → Int} (hA : Obd 60 A) (h8 : it ≤ 8) (hc : c < it) (ha : a < it) (hb : b < it) (hd : ∀ x, ole x (fw A c c c) → x ≤ 0) (q2 : ∀ u v, u < it → v < it → sv (-100000) (S (u * 8 + v)) = if u < a ∨ (u = a ∧ v < b) then fw A (c + 1) u v else fw A c u v) : sv (-100000) (S (a * 8 + c)) = fw A c a c ∧ sv (-100000) (S (c * 8 + b)) = fw A c c b ∧ sv (-100000) (S (a * 8 + b)) = fw A c a b ∧ (S (a * 8 + c) = -100000 ∨ (-7680 ≤ S (a * 8 + c) ∧ S (a * 8 + c) ≤ 7680)) ∧ (S (c * 8 + b) = -100000 ∨ (-7680 ≤ S (c * 8 + b) ∧ S (c * 8 + b) ≤ 7680)) := by
  have e1 : sv (-100000) (S (a * 8 + c)) = fw A c a c := by rw [q2 a c ha hc]; split; exact fw_pc hd; rfl
  have e2 : sv (-100000) (S (c * 8 + b)) = fw A c c b := by rw [q2 c b hc hb]; split; exact fw_pr hd; rfl
  have hO := Obd.fw (by decide) hA c
  have hp := p60 (show c < 8 by omega)
  refine ⟨e1, e2, by rw [q2 a b ha hb, if_neg (by omega)], ?_, ?_⟩
  · by_cases g : S (a * 8 + c) = -100000
    · exact Or.inl g
    · rw [sv_s g] at e1
      have := hO _ _ _ e1.symm
      exact Or.inr (by omega)
  · by_cases g : S (c * 8 + b) = -100000
    · exact Or.inl g
    · rw [sv_s g] at e2
      have := hO _ _ _ e2.symm
      exact Or.inr (by omega)
theorem FI.no {A : Mx} {it c a b : Nat} {S : Nat → Int} (hA : Obd 60 A) (h8 : it ≤ 8) (hc : c < it) (ha : a < it) (hb : b < it) (h : FI A it c a b S) (hn : S (a * 8 + c) ≤ -100000 ∨ S (c * 8 + b) ≤ -100000) : FI A it c a (b + 1) S := by
  refine ⟨h.1, ?_⟩
  rcases h.2 with ⟨q1, q2⟩ | q
  · obtain ⟨e1, e2, e3, b1, b2⟩ := FI.rd hA h8 hc ha hb q1 q2
    refine Or.inl ⟨q1, fun u v hu hv => ?_⟩
    by_cases e : u = a ∧ v = b
    · rw [if_pos (by omega), e.1, e.2, e3]
      show _ = omx (fw A c a b) (oad (fw A c a c) (fw A c c b))
      rcases hn with g | g
      · rw [← e1, show S (a * 8 + c) = -100000 by omega, sv_n]
        show _ = omx _ none
        rw [omx_none]
      · rw [← e2, show S (c * 8 + b) = -100000 by omega, sv_n]
        have : oad (fw A c a c) none = none := by cases fw A c a c <;> rfl
        rw [this, omx_none]
    · rw [q2 u v hu hv]
      by_cases g : u < a ∨ (u = a ∧ v < b)
      · rw [if_pos g, if_pos (by omega)]
      · rw [if_neg g, if_neg (by omega)]
  · exact Or.inr q
theorem FI.yes {A : Mx} {it c a b : Nat} {S : Nat → Int} (hA : Obd 60 A) (h8 : it ≤ 8) (hc : c < it) (ha : a < it) (hb : b < it) (h : FI A it c a b S) (h1 : -100000 < S (a * 8 + c)) (h2 : -100000 < S (c * 8 + b)) : FI A it c a (b + 1) (lgF S (a * 8 + b) (wr (S (a * 8 + c) + S (c * 8 + b)))) := by
  refine ⟨h.1.lg (wr_r _), ?_⟩
  rcases h.2 with ⟨q1, q2⟩ | ⟨q1, v, q2, q3⟩
  · obtain ⟨e1, e2, e3, b1, b2⟩ := FI.rd hA h8 hc ha hb q1 q2
    have hw := wr_id (show -2147483648 ≤ S (a * 8 + c) + S (c * 8 + b) ∧ S (a * 8 + c) + S (c * 8 + b) ≤ 2147483647 by omega)
    rw [hw]
    refine Or.inl ⟨q1, fun u v hu hv => ?_⟩
    by_cases e : u = a ∧ v = b
    · rw [if_pos (by omega), e.1, e.2, lgF_s]
      have hs := @sv_mx (-100000) (S (a * 8 + b)) (S (a * 8 + c)) (S (c * 8 + b)) (by intro g1 g2; omega)
      rw [e1, e2, e3] at hs
      show _ = omx (fw A c a b) (oad (fw A c a c) (fw A c c b))
      rw [← hs]
      congr 1
      by_cases g : S (a * 8 + b) < S (a * 8 + c) + S (c * 8 + b)
      · rw [if_pos g, if_neg (by omega)]
      · rw [if_neg g, if_pos (by omega)]
    · rw [lgF_n (fun g => e (ix8 (by omega) (by omega) g)), q2 u v hu hv]
      by_cases g : u < a ∨ (u = a ∧ v < b)
      · rw [if_pos g, if_pos (by omega)]
      · rw [if_neg g, if_neg (by omega)]
  · exact Or.inr ⟨q1, v, q2, Int.lt_of_lt_of_le q3 lgF_mono⟩
/-- what the reference's sums are, by two weights -/
def FwP (φ : Fs) (it : Nat) (p q : Int) (S : Nat → Int) : Prop := Rg S ∧ (reS S it ↔ Fe φ 0 p q) ∧ (Fe φ 0 p q → ∀ a b, a < it → b < it → sv (-100000) (S (a * 8 + b)) = fw (A0 (EF φ 0) p q) it a b)
theorem FS.fin {φ : Fs} {it : Nat} {p q : Int} {S : Nat → Int} (hS : Sm it φ) (h : FS (A0 (EF φ 0) p q) it it S) : FwP φ it p q S := by
  have hI := EF_ini (w := 0) hS (p := p) (q := q)
  have hE := EF_in (w := 0) hS
  have hdi := Dg_iff hE hI
  refine ⟨h.1, ?_⟩
  rcases h.2 with g | ⟨h1, v, h2, h3⟩
  · refine ⟨⟨fun k => hdi.mp (fun a ha x hx => ?_), fun k v hv => ?_⟩, fun _ => g⟩
    · rw [← g a a ha ha] at hx
      have := sv_ole hx
      have := k a ha
      omega
    · by_cases e : S (v * 8 + v) = -100000
      · omega
      · exact hdi.mpr k v hv _ (by rw [← g v v hv hv]; exact ole_sv e (Int.le_refl _))
  · refine ⟨⟨fun k => ?_, fun k => absurd (hdi.mpr k) h1⟩, fun k => absurd (hdi.mpr k) h1⟩
    have := k v h2
    omega
def cs (z : Int) : Int := if z = -1000000000 then -100000 else z
theorem sv_cs {x y : Int} (h : sv (-100000) x = sv (-1000000000) y) : x = cs y := by
  unfold cs
  by_cases e : y = -1000000000
  · rw [if_pos e]
    rw [e, sv_n] at h
    unfold sv at h
    split at h
    · assumption
    · cases h
  · rw [if_neg e]
    rw [sv_s e] at h
    exact (sv_is h).1
/-- by a length: the class's sums -/
def StP (φ : Fs) (it : Nat) (L : Int) (S : Nat → Int) : Prop := Rg S ∧ (reS S it ↔ reS (str φ L it) it) ∧ (reS (str φ L it) it → ∀ a b, a < it → b < it → S (a * 8 + b) = cs (str φ L it (a * 8 + b)))
theorem FwP.st {φ : Fs} {it : Nat} {L : Int} {S : Nat → Int} (hS : Sm it φ) (hL : 1 ≤ L ∧ L ≤ 60) (h : FwP φ it L (1 - L) S) : StP φ it L S := by
  obtain ⟨s1, s2⟩ := str_fw hS hL
  refine ⟨h.1, h.2.1.trans s1.symm, fun q a b ha hb => sv_cs ?_⟩
  rw [h.2.2 (s1.mp q) a b ha hb, s2 (s1.mp q) a b ha hb]
theorem FwP.gd {φ : Fs} {it : Nat} {S : Nat → Int} (hS : Sm it φ) (h : FwP φ it 10 (-8) S) : reS S it ↔ Good φ := h.2.1.trans (Gd_iff (EF_in hS)).symm
