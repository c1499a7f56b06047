/-! lengths: the least one, those above it; facts left out -/
theorem wvL (L : Int) (n b : Nat) : wv L (1 - L) n b = (n : Int) - b + L * (2 * (b : Int) - n) := by
  unfold wv
  rw [Int.sub_mul, Int.mul_sub, show L - (1 - L) = 2 * L - 1 by omega, Int.sub_mul, show 2 * L * (b : Int) = L * (2 * (b : Int)) by rw [Int.mul_comm 2 L, Int.mul_assoc]]
  omega
theorem Fe_mono {φ : Fs} {w : Nat} {L L2 : Int} (hL : 1 ≤ L) (h2 : L ≤ L2) (h : Fe φ w L (1 - L)) : Fe φ w L2 (1 - L2) := by
  intro n u b hw
  have h1 := h n u b hw
  have hb := wk_le hw
  rw [wvL] at h1 ⊢
  have h3 : 2 * (b : Int) - n ≤ 0 := by
    refine Int.not_lt.mp (fun q => ?_)
    have : L * 1 ≤ L * (2 * (b : Int) - n) := Int.mul_le_mul_of_nonneg_left (by omega) (by omega)
    omega
  have h4 : L2 * (2 * (b : Int) - n) ≤ L * (2 * (b : Int) - n) := Int.mul_le_mul_of_nonpos_right h2 h3
  omega
theorem reS_mono {φ : Fs} {it : Nat} {L L2 : Int} (hS : Sm it φ) (hL : 1 ≤ L) (h2 : L ≤ L2) (h60 : L2 ≤ 60) (h : reS (str φ L it) it) : reS (str φ L2 it) it :=
  (str_fw hS (by omega)).1.mpr (Fe_mono hL h2 ((str_fw hS (by omega)).1.mp h))
theorem isL_ex {φ : Fs} {it : Nat} (hS : Sm it φ) (hG : Good φ) : ∃ L, isL φ it L := by
  have h8 : reS (str φ ((8 : Nat) : Int) it) it := (str_fw hS (by omega)).1.mpr (fun n u b hw => Gd_L8 (EF_in hS) hG hw)
  have key : ∀ k : Nat, 1 ≤ k → k ≤ 8 → reS (str φ (k : Int) it) it → ∃ L, isL φ it L := by
    intro k
    induction k using Nat.strongRecOn with
    | ind k ih =>
      intro h1 h2 h3
      by_cases e : ∃ j, 1 ≤ j ∧ j < k ∧ reS (str φ (j : Int) it) it
      · obtain ⟨j, g1, g2, g3⟩ := e
        exact ih j g2 g1 (by omega) g3
      · exact ⟨k, h1, by omega, h3, fun j g1 g2 g3 => e ⟨j, g1, g2, g3⟩⟩
  exact key 8 (by decide) (by decide) h8
theorem lyO_iff {φ : Fs} {it L : Nat} (hS : Sm it φ) (hL : isL φ it L) {p : Int} : lyO φ it p ↔ (L : Int) ≤ p ∧ p ≤ 60 := by
  obtain ⟨l1, l2, l3, l4⟩ := hL
  constructor
  · rintro ⟨h1, h2, h3⟩
    refine ⟨Int.not_lt.mp (fun q => ?_), h2⟩
    refine l4 p.toNat (by omega) (by omega) ?_
    rw [Int.toNat_of_nonneg (by omega)]
    exact h3
  · rintro ⟨h1, h2⟩
    exact ⟨by omega, h2, reS_mono hS (by omega) h1 h2 l3⟩
theorem cs_lt {M e : Int} (hM : M = -1000000000 ∨ -50000 ≤ M) (he : 0 ≤ e) : e < cs M ↔ e < M := by
  unfold cs
  split <;> omega
theorem pow_bit {k i : Nat} : 2 ^ k / 2 ^ i % 2 = 0 ↔ i ≠ k := by
  constructor
  · rintro h rfl
    rw [Nat.div_self (Nat.pow_pos (by decide))] at h
    omega
  · intro h
    rcases Nat.lt_or_gt_of_ne h with g | g
    · rw [Nat.pow_div (by omega) (by decide), show k - i = k - i - 1 + 1 by omega, Nat.pow_succ]
      omega
    · rw [Nat.div_eq_of_lt (Nat.pow_lt_pow_right (by decide) g)]
theorem fgt_at {φ : Fs} {k j : Nat} : kd (fgt φ k) j = (if j < k then kd φ j else kd φ (j + 1)) ∧ fi (fgt φ k) j = (if j < k then fi φ j else fi φ (j + 1)) ∧ se (fgt φ k) j = (if j < k then se φ j else se φ (j + 1)) := by
  unfold kd fi se fgt
  rw [ers_at]
  by_cases e : j < k
  · rw [if_pos e, if_pos e, if_pos e, if_pos e]; exact ⟨rfl, rfl, rfl⟩
  · rw [if_neg e, if_neg e, if_neg e, if_neg e]; exact ⟨rfl, rfl, rfl⟩
theorem EF_fgt {φ : Fs} {k : Nat} (hk : k < φ.length) (k2 u v : Nat) : EF (fgt φ k) 0 k2 u v ↔ EF φ (2 ^ k) k2 u v := by
  have el : (fgt φ k).length = φ.length - 1 := List.length_eraseIdx_of_lt hk
  unfold EF
  constructor
  · rintro ⟨i, h1, h2, h3, h4⟩
    rw [el] at h1
    rw [fgt_at.1] at h3
    rw [fgt_at.2.1, fgt_at.2.2] at h4
    by_cases e : i < k
    · rw [if_pos e] at h3
      rw [if_pos e, if_pos e] at h4
      exact ⟨i, by omega, pow_bit.mpr (by omega), h3, h4⟩
    · rw [if_neg e] at h3
      rw [if_neg e, if_neg e] at h4
      exact ⟨i + 1, by omega, pow_bit.mpr (by omega), h3, h4⟩
  · rintro ⟨i, h1, h2, h3, h4⟩
    have hne := pow_bit.mp h2
    by_cases e : i < k
    · exact ⟨i, by omega, bit0, by rw [fgt_at.1, if_pos e]; exact h3, by rw [fgt_at.2.1, fgt_at.2.2, if_pos e, if_pos e]; exact h4⟩
    · have e2 : i - 1 + 1 = i := by omega
      exact ⟨i - 1, by omega, bit0, by rw [fgt_at.1, if_neg (by omega), e2]; exact h3, by rw [fgt_at.2.1, fgt_at.2.2, if_neg (by omega), if_neg (by omega), e2]; exact h4⟩
theorem Gd_sub {φ : Fs} {w : Nat} (h : Good φ) : Gd (EF φ w) := Gd.mono (fun k u v ⟨i, h1, h2, h3, h4⟩ => ⟨i, h1, bit0, h3, h4⟩) h
theorem Good_fgt {φ : Fs} {k : Nat} (hk : k < φ.length) (h : Good φ) : Good (fgt φ k) := (Gd_ext (EF_fgt hk)).mpr (Gd_sub h)
theorem ix_fgt {φ : Fs} {it x y k : Nat} (hS : Sm it φ) (hk : k < φ.length) (hp : pm φ (x : Int) (y : Int) k) : ix (fgt φ k) (x : Int) (y : Int) = -1 := by
  have el : (fgt φ k).length = φ.length - 1 := List.length_eraseIdx_of_lt hk
  refine sr_miss (fun j hj q => ?_)
  rw [el] at hj
  unfold pm at hp q
  rw [fgt_at.2.1, fgt_at.2.2] at q
  by_cases e : j < k
  · rw [if_pos e, if_pos e] at q
    have := Sm_uq hS (i := k) (j := j) hk (by omega) (by omega)
    omega
  · rw [if_neg e, if_neg e] at q
    have := Sm_uq hS (i := k) (j := j + 1) hk (by omega) (by omega)
    omega
/-- the facts without that of two items -/
noncomputable def wo (φ : Fs) (x y : Nat) : Fs := if ix φ (x : Int) (y : Int) = -1 then φ else fgt φ (ix φ (x : Int) (y : Int)).toNat
theorem ix_lt {φ : Fs} {x y : Int} (h : ¬ ix φ x y = -1) : (ix φ x y).toNat < φ.length ∧ pm φ x y (ix φ x y).toNat := by
  rcases sr_is (P := pm φ x y) (n := φ.length) with ⟨e, -⟩ | ⟨k, e, h1, h2, -⟩
  · exact absurd e h
  · have e2 : ix φ x y = (k : Int) := e
    rw [e2, Int.toNat_natCast]
    exact ⟨h1, h2⟩
theorem wo_all {φ : Fs} {it x y : Nat} (hS : Sm it φ) (hG : Good φ) : Sm it (wo φ x y) ∧ Good (wo φ x y) ∧ ix (wo φ x y) (x : Int) (y : Int) = -1 ∧ ∀ k u v, EF (wo φ x y) 0 k u v ↔ EF φ (opW φ x y) k u v := by
  unfold wo opW
  by_cases e : ix φ (x : Int) (y : Int) = -1
  · rw [if_pos e, if_pos e]
    exact ⟨hS, hG, e, fun _ _ _ => Iff.rfl⟩
  · rw [if_neg e, if_neg e]
    obtain ⟨h1, h2⟩ := ix_lt e
    exact ⟨Sm_fgt hS h1, Good_fgt h1 hG, ix_fgt hS h1 h2, EF_fgt h1⟩
theorem opn_bits {φ : Fs} {it x y : Nat} (hS : Sm it φ) (hG : Good φ) (hx : x < it) (hy : y < it) : (opn φ it x y % 2 = 1 ↔ Good (wo φ x y ++ [(0, x, y)])) ∧ (opn φ it x y / 2 % 2 = 1 ↔ Good (wo φ x y ++ [(0, y, x)])) ∧ (opn φ it x y / 4 % 2 = 1 ↔ Good (wo φ x y ++ [(1, x, y)])) := by
  obtain ⟨w1, w2, w3, w4⟩ := wo_all (x := x) (y := y) hS hG
  have hg := (wgh_g (w := opW φ x y) hS (Gd_sub hG)).ext (fun k u v => (w4 k u v).symm)
  rw [Good_app (by decide), Good_app (by decide), Good_app (by decide)]
  exact opt_bits hg hx hy
theorem ix_sym {φ : Fs} {x y : Int} : ix φ x y = ix φ y x := by
  have e : pm φ x y = pm φ y x := by
    funext k
    unfold pm
    exact propext ⟨fun h => h.symm, fun h => h.symm⟩
  unfold ix
  rw [e]
theorem pcH_pc : ∀ n, n ≤ 7 → pcH 30 n = pc8 n := by decide
