/-! the fewest facts without which a fact could be told -/
def Sol (φ : Fs) (k x y S : Nat) : Prop := Gd (Ea2 (EF φ S) k x y)
theorem Sol_rfd {φ : Fs} {it k x y S : Nat} (hS : Sm it φ) (hG : Good φ) (hk : k ≤ 1) (hx : x < it) (hy : y < it) (hne : x ≠ y) : Sol φ k x y S ↔ ¬ rfd φ S it k x y := by
  unfold Sol
  rw [rfd_iff hS (Gd_sub hG) hk hx hy hne]
  exact ⟨fun h q => q h, fun h => Classical.byContradiction h⟩
theorem bz0 {w i : Nat} : ¬ bitN w i ↔ w / 2 ^ i % 2 = 0 := by unfold bitN; omega
theorem rbF_bit {r : Nat → Int} {j : Nat} : ∀ n, bitN (rbF r n) j ↔ ∃ i, i < n ∧ (r i).toNat = j
  | 0 => by
    constructor
    · intro h; unfold bitN rbF at h; rw [Nat.zero_div] at h; omega
    · rintro ⟨i, hi, _⟩; omega
  | n + 1 => by
    rw [rbF, bit_or, rbF_bit n]
    constructor
    · rintro (⟨i, h1, h2⟩ | h)
      · exact ⟨i, by omega, h2⟩
      · exact ⟨n, by omega, h.symm⟩
    · rintro ⟨i, h1, h2⟩
      by_cases e : i = n
      · subst e; exact Or.inr h2.symm
      · exact Or.inl ⟨i, by omega, h2⟩
theorem sk_ab {φ : Fs} {w it k x y n a b : Nat} (e : skN φ w it k x y = (n, a, b)) (hn : 0 < n) : (a = x ∧ b = y) ∨ (k = 1 ∧ a = y ∧ b = x) := by
  unfold skN at e
  by_cases hk : k = 1
  · rw [if_pos hk] at e
    split at e
    · cases e; exact Or.inl ⟨rfl, rfl⟩
    · cases e; exact Or.inr ⟨hk, rfl, rfl⟩
  · rw [if_neg hk] at e
    split at e
    · cases e; exact Or.inl ⟨rfl, rfl⟩
    · cases e; omega
/-- the ring that was traced is a walk, and goes on where its facts stay -/
theorem tr_walk {φ : Fs} {w S x it k y n : Nat} (hS : Sm it φ) (hx : x < it) (hy : y < it) (hn : n < it) (hh : hit φ w k x y n) (hsv : ∀ i, i < n → ¬ bitN S (trK φ w (fwL φ w x n) k y n i).toNat) : ∀ i, i ≤ n → Ps (EF φ S) y (trS φ w (fwL φ w x n) k y n i).1 ((trS φ w (fwL φ w x n) k y n i).2.1 - wt k)
  | 0, _ => by
    show Ps (EF φ S) y y (wt k - wt k)
    rw [Int.sub_self]
    exact Ps_0
  | i + 1, hi => by
    have ih := tr_walk hS hx hy hn hh hsv i (by omega)
    have hg := tr_go hS hx hy hn hh (i + 1) hi
    have hk := hg.1 i (by omega)
    have hki : ∃ kk : Nat, trK φ w (fwL φ w x n) k y n i = kk ∧ kk < φ.length ∧ stp φ w (fwL φ w x n) (trS φ w (fwL φ w x n) k y n i).1 (trS φ w (fwL φ w x n) k y n i).2.1 (n - 1 - i) kk := by
      rcases sr_is (P := stp φ w (fwL φ w x n) (trS φ w (fwL φ w x n) k y n i).1 (trS φ w (fwL φ w x n) k y n i).2.1 (n - 1 - i)) (n := φ.length) with ⟨e, -⟩ | ⟨mm, e, h1, h2, -⟩
      · exact absurd e hk
      · exact ⟨mm, e, h1, h2⟩
    obtain ⟨kk, e1, e2, e3⟩ := hki
    have hs := hsv i (by omega)
    rw [trS_s, e1, Int.toNat_natCast]
    rw [e1, Int.toNat_natCast] at hs
    have ht := (tgt_b (p := ((trS φ w (fwL φ w x n) k y n i).1 : Int)) hS e2).resolve_left e3.2.1
    have he : EF φ S (kd φ kk) (trS φ w (fwL φ w x n) k y n i).1 (tgt φ kk ((trS φ w (fwL φ w x n) k y n i).1 : Int)).toNat := (EF_tgt hS).mpr ⟨kk, e2, bz0.mp hs, rfl, by omega⟩
    refine Ps_le (Ps_app ih (Ps_e he (hS.2.2 kk e2).1)) ?_
    dsimp only
    omega
theorem ring_cut {φ : Fs} {it k x y g S : Nat} (hS : Sm it φ) (hG : Good φ) (hk : k ≤ 1) (hx : x < it) (hy : y < it) (hne : x ≠ y) (hr : rfd φ g it k x y) (hsol : Sol φ k x y S) : ∃ j, j < φ.length ∧ bitN (rgB φ g it k x y) j ∧ bitN S j ∧ ¬ bitN g j := by
  obtain ⟨s1, s2, s3, s4, s5⟩ := skN_hit hx hy hr
  generalize hn : (skN φ g it k x y).1 = n at *
  generalize ha : (skN φ g it k x y).2.1 = a at *
  generalize hb : (skN φ g it k x y).2.2 = b at *
  have esk : skN φ g it k x y = (n, a, b) := by rw [← hn, ← ha, ← hb]
  have erow : (skV φ g it k x y (0, 0, 0, 0, fun _ => 0)).2.2.2.2 = fun i => trK φ g (fwL φ g a n) k b n i := by rw [skV_of esk s1]
  have hex : ∃ i, i < n ∧ bitN S (trK φ g (fwL φ g a n) k b n i).toNat := by
    apply Classical.byContradiction
    intro q
    have hw := tr_walk (S := S) hS s4 s5 s2 s3 (fun i hi z => q ⟨i, hi, z⟩) n (Nat.le_refl n)
    have hg := tr_go hS s4 s5 s2 s3 n (Nat.le_refl n)
    have hend := hg.2.2
    rw [Nat.sub_self, bst] at hend
    have hpos : (trS φ g (fwL φ g a n) k b n n).1 = a := by
      by_cases e : (trS φ g (fwL φ g a n) k b n n).1 = a
      · exact e
      · rw [if_neg e] at hend; exact absurd rfl hend.1
    rw [if_pos hpos] at hend
    rw [hpos] at hw
    have hp : Ps (EF φ S) b a (-wt k) := Ps_le hw (by have := hend.2; omega)
    have hGS : Gd (EF φ S) := Gd_sub hG
    unfold Sol at hsol
    have hab : (a = x ∧ b = y) ∨ (k = 1 ∧ a = y ∧ b = x) := sk_ab esk s1
    rcases (show k = 0 ∨ k = 1 by omega) with e | e
    · subst e
      rcases hab with ⟨e1, e2⟩ | ⟨e1, -⟩
      · rw [e1, e2] at hp
        exact (Gd2_0 hGS).mp hsol hp
      · omega
    · subst e
      rcases hab with ⟨e1, e2⟩ | ⟨-, e1, e2⟩
      · rw [e1, e2] at hp
        exact ((Gd2_1 hGS).mp hsol).2 hp
      · rw [e1, e2] at hp
        exact ((Gd2_1 hGS).mp hsol).1 hp
  obtain ⟨i, hi, hbS⟩ := hex
  have hgi := (tr_go hS s4 s5 s2 s3 n (Nat.le_refl n)).1 i hi
  rcases sr_is (P := stp φ g (fwL φ g a n) (trS φ g (fwL φ g a n) k b n i).1 (trS φ g (fwL φ g a n) k b n i).2.1 (n - 1 - i)) (n := φ.length) with ⟨e, -⟩ | ⟨kk, e, h1, h2, -⟩
  · exact absurd e hgi
  · have e2 : trK φ g (fwL φ g a n) k b n i = (kk : Int) := e
    rw [e2, Int.toNat_natCast] at hbS
    refine ⟨kk, h1, ?_, hbS, bz0.mpr h2.1⟩
    unfold rgB
    rw [hn, rbF_bit, erow]
    exact ⟨i, hi, by dsimp only; rw [e2, Int.toNat_natCast]⟩
theorem rg_lt {φ : Fs} {it k x y g j : Nat} (hS : Sm it φ) (hx : x < it) (hy : y < it) (hr : rfd φ g it k x y) (hb : bitN (rgB φ g it k x y) j) : j < φ.length := by
  unfold rgB at hb
  rw [rbF_bit] at hb
  obtain ⟨i, hi, e⟩ := hb
  have := sk_row hS hx hy hr (0, 0, 0, 0, fun _ => 0) i hi
  omega
theorem bsF_is {f : Nat → Int} {b : Nat} : ∀ n, (bsF f b n = -1 ∧ ∀ j, j < n → bitN b j → f j = -1) ∨ ∃ j, j < n ∧ bitN b j ∧ f j ≠ -1 ∧ bsF f b n = f j ∧ ∀ i, i < n → bitN b i → f i ≠ -1 → bsF f b n ≤ f i
  | 0 => Or.inl ⟨rfl, fun j hj => absurd hj (Nat.not_lt_zero j)⟩
  | n + 1 => by
    rw [bsF]
    by_cases hb : b / 2 ^ n % 2 = 1 ∧ f n ≠ -1 ∧ (bsF f b n = -1 ∨ f n < bsF f b n)
    · rw [if_pos hb]
      refine Or.inr ⟨n, by omega, hb.1, hb.2.1, rfl, fun i hi h1 h2 => ?_⟩
      by_cases e : i = n
      · rw [e]; exact Int.le_refl _
      · rcases @bsF_is f b n with ⟨g1, g2⟩ | ⟨j, g1, g2, g3, g4, g5⟩
        · exact absurd (g2 i (by omega) h1) h2
        · have := g5 i (by omega) h1 h2
          rcases hb.2.2 with z | z
          · rw [g4] at z; exact absurd z g3
          · omega
    · rw [if_neg hb]
      rcases @bsF_is f b n with ⟨g1, g2⟩ | ⟨j, g1, g2, g3, g4, g5⟩
      · refine Or.inl ⟨g1, fun j hj h1 => ?_⟩
        by_cases e : j = n
        · subst e
          apply Classical.byContradiction
          intro q
          exact hb ⟨h1, q, Or.inl g1⟩
        · exact g2 j (by omega) h1
      · refine Or.inr ⟨j, by omega, g2, g3, g4, fun i hi h1 h2 => ?_⟩
        by_cases e : i = n
        · subst e
          exact Int.not_lt.mp (fun z => hb ⟨h1, h2, Or.inr z⟩)
        · exact g5 i (by omega) h1 h2
theorem bit_div {w j : Nat} : bitN w (j + 1) ↔ bitN (w / 2) j := by
  unfold bitN
  rw [Nat.pow_succ, Nat.mul_comm, ← Nat.div_div_eq_div_mul]
theorem pcH_or : ∀ (k w j : Nat), j < k → ¬ bitN w j → pcH k (w ||| 2 ^ j) = pcH k w + 1
  | 0, w, j, h, _ => absurd h (Nat.not_lt_zero j)
  | k + 1, w, 0, h, hb => by
    unfold pcH
    have e : (w ||| 2 ^ 0) / 2 = w / 2 := by
      have := @Nat.shiftRight_or_distrib 1 w 1
      simp only [Nat.shiftRight_eq_div_pow] at this
      rw [show 2 ^ 0 = 1 from rfl]
      rw [show (2 : Nat) ^ 1 = 2 from rfl] at this
      rw [this]
      simp
    have e2 : (w ||| 2 ^ 0) % 2 = 1 := by
      have : bitN (w ||| 2 ^ 0) 0 := bit_or.mpr (Or.inr rfl)
      unfold bitN at this
      rw [show 2 ^ 0 = 1 from rfl, Nat.div_one] at this
      exact this
    unfold bitN at hb
    rw [show 2 ^ 0 = 1 from rfl, Nat.div_one] at hb
    rw [e, e2]
    omega
  | k + 1, w, j + 1, h, hb => by
    unfold pcH
    have e : (w ||| 2 ^ (j + 1)) / 2 = w / 2 ||| 2 ^ j := by
      have := @Nat.shiftRight_or_distrib 1 w (2 ^ (j + 1))
      simp only [Nat.shiftRight_eq_div_pow] at this
      rw [show (2 : Nat) ^ 1 = 2 from rfl] at this
      rw [this, Nat.pow_succ, Nat.mul_div_cancel _ (by decide)]
    have e2 : (w ||| 2 ^ (j + 1)) % 2 = w % 2 := by
      have h1 : bitN (w ||| 2 ^ (j + 1)) 0 ↔ bitN w 0 ∨ 0 = j + 1 := bit_or
      unfold bitN at h1
      rw [show 2 ^ 0 = 1 from rfl, Nat.div_one, Nat.div_one] at h1
      omega
    rw [e, e2, pcH_or k (w / 2) j (by omega) (fun q => hb (bit_div.mpr q))]
    omega
def Sub (g S : Nat) : Prop := ∀ i, bitN g i → bitN S i
theorem bit_ext {a b : Nat} (h : ∀ i, bitN a i ↔ bitN b i) : a = b := by
  have e : ∀ w k, bitN w k ↔ w.testBit k = true := fun w k => by unfold bitN; rw [Nat.testBit_eq_decide_div_mod_eq, decide_eq_true_iff]
  refine Nat.eq_of_testBit_eq (fun i => ?_)
  have := h i
  rw [e, e] at this
  exact Bool.eq_iff_iff.mpr this
theorem Sub_pc : ∀ (k g S : Nat), Sub g S → pcH k g ≤ pcH k S
  | 0, _, _, _ => Nat.le_refl _
  | k + 1, g, S, h => by
    have ih := Sub_pc k (g / 2) (S / 2) (fun i hi => bit_div.mp (h (i + 1) (bit_div.mpr hi)))
    have h0 := h 0
    unfold bitN at h0
    rw [show 2 ^ 0 = 1 from rfl, Nat.div_one, Nat.div_one] at h0
    unfold pcH
    omega
theorem Sub_eq : ∀ (k g S : Nat), g < 2 ^ k → S < 2 ^ k → Sub g S → pcH k g = pcH k S → g = S
  | 0, g, S, h1, h2, _, _ => by simp at h1 h2; omega
  | k + 1, g, S, h1, h2, h, he => by
    rw [Nat.pow_succ] at h1 h2
    have hs : Sub (g / 2) (S / 2) := fun i hi => bit_div.mp (h (i + 1) (bit_div.mpr hi))
    have hle := Sub_pc k _ _ hs
    have h0 := h 0
    unfold bitN at h0
    rw [show 2 ^ 0 = 1 from rfl, Nat.div_one, Nat.div_one] at h0
    unfold pcH at he
    have := Sub_eq k (g / 2) (S / 2) (by omega) (by omega) hs (by omega)
    omega
theorem lsY_A {φ : Fs} {it k x y : Nat} (hS : Sm it φ) (hG : Good φ) (hk : k ≤ 1) (hx : x < it) (hy : y < it) (hne : x ≠ y) : ∀ l g, g < 2 ^ φ.length → lsY φ it k x y l g ≠ -1 → ∃ S : Nat, lsY φ it k x y l g = S ∧ Sol φ k x y S ∧ S < 2 ^ φ.length ∧ pcH 30 S ≤ pcH 30 g + l
  | 0, g, hg, h => by
    rw [lsY] at h ⊢
    by_cases e : rfd φ g it k x y
    · rw [if_pos e] at h; exact absurd rfl h
    · rw [if_neg e] at h ⊢
      exact ⟨g, rfl, (Sol_rfd hS hG hk hx hy hne).mpr e, hg, by omega⟩
  | l + 1, g, hg, h => by
    rw [lsY] at h ⊢
    by_cases e : rfd φ g it k x y
    · rw [if_pos e] at h ⊢
      rcases @bsF_is (fun j => lsY φ it k x y l (g ||| 2 ^ j)) (rgB φ g it k x y) φ.length with ⟨g1, -⟩ | ⟨j, g1, g2, g3, g4, -⟩
      · exact absurd g1 h
      · have hlt : g ||| 2 ^ j < 2 ^ φ.length := Nat.or_lt_two_pow hg (Nat.pow_lt_pow_right (by decide) g1)
        obtain ⟨S, s1, s2, s3, s4⟩ := lsY_A hS hG hk hx hy hne l (g ||| 2 ^ j) hlt g3
        have h28 := hS.2.1
        have hp : pcH 30 (g ||| 2 ^ j) ≤ pcH 30 g + 1 := by
          by_cases hb : bitN g j
          · have : g ||| 2 ^ j = g := bit_ext (fun i => by rw [bit_or]; exact ⟨fun q => q.elim id (fun z => by rw [z]; exact hb), Or.inl⟩)
            rw [this]; omega
          · rw [pcH_or 30 g j (by omega) hb]; omega
        exact ⟨S, by rw [g4]; exact s1, s2, s3, by omega⟩
    · rw [if_neg e] at h ⊢
      exact ⟨g, rfl, (Sol_rfd hS hG hk hx hy hne).mpr e, hg, by omega⟩
theorem lsY_B {φ : Fs} {it k x y : Nat} (hS : Sm it φ) (hG : Good φ) (hk : k ≤ 1) (hx : x < it) (hy : y < it) (hne : x ≠ y) {S : Nat} (hsol : Sol φ k x y S) (hSl : S < 2 ^ φ.length) (hmin : ∀ S', S' < 2 ^ φ.length → pcH 30 S' < pcH 30 S → ¬ Sol φ k x y S') : ∀ l g, Sub g S → g < 2 ^ φ.length → pcH 30 g + l = pcH 30 S → lsY φ it k x y l g ≠ -1 ∧ lsY φ it k x y l g ≤ S := by
  intro l
  induction l with
  | zero =>
    intro g hs hg hl
    rw [Nat.add_zero] at hl
    have h28 := hS.2.1
    have e : g = S := Sub_eq 30 g S (Nat.lt_of_lt_of_le hg (Nat.pow_le_pow_right (by decide) (by omega))) (Nat.lt_of_lt_of_le hSl (Nat.pow_le_pow_right (by decide) (by omega))) hs hl
    rw [e, lsY, if_neg ((Sol_rfd hS hG hk hx hy hne).mp hsol)]
    exact ⟨by omega, Int.le_refl _⟩
  | succ l ih0 =>
    intro g hs hg hl
    have hr : rfd φ g it k x y := Classical.byContradiction (fun q => hmin g hg (by omega) ((Sol_rfd hS hG hk hx hy hne).mpr q))
    obtain ⟨j, j1, j2, j3, j4⟩ := ring_cut hS hG hk hx hy hne hr hsol
    have hlt : g ||| 2 ^ j < 2 ^ φ.length := Nat.or_lt_two_pow hg (Nat.pow_lt_pow_right (by decide) j1)
    have h28 := hS.2.1
    have ih := ih0 (g ||| 2 ^ j) (fun i hi => by
      rcases bit_or.mp hi with q | q
      · exact hs i q
      · rw [q]; exact j3) hlt (by rw [pcH_or 30 g j (by omega) j4]; omega)
    rw [lsY, if_pos hr]
    rcases @bsF_is (fun j => lsY φ it k x y l (g ||| 2 ^ j)) (rgB φ g it k x y) φ.length with ⟨-, g2⟩ | ⟨i, g1, g2, g3, g4, g5⟩
    · exact absurd (g2 j j1 j2) ih.1
    · refine ⟨by rw [g4]; exact g3, ?_⟩
      exact Int.le_trans (g5 j j1 j2 ih.1) ih.2
/-- what both answer -/
def YS (φ : Fs) (k x y : Nat) (z : Int) : Prop := (∃ S : Nat, z = S ∧ Sol φ k x y S ∧ S < 2 ^ φ.length ∧ pcH 30 S ≤ 3 ∧ (∀ S', S' < 2 ^ φ.length → pcH 30 S' < pcH 30 S → ¬ Sol φ k x y S') ∧ ∀ S', S' < 2 ^ φ.length → pcH 30 S' = pcH 30 S → Sol φ k x y S' → S ≤ S') ∨ (z = -2 ∧ ∀ S', S' < 2 ^ φ.length → pcH 30 S' ≤ 3 → ¬ Sol φ k x y S')
theorem YS_u {φ : Fs} {k x y : Nat} {z z' : Int} (h : YS φ k x y z) (h' : YS φ k x y z') : z = z' := by
  rcases h with ⟨S, a1, a2, a3, a4, a5, a6⟩ | ⟨a1, a2⟩ <;> rcases h' with ⟨T, b1, b2, b3, b4, b5, b6⟩ | ⟨b1, b2⟩
  · have e : pcH 30 S = pcH 30 T := by
      rcases Nat.lt_trichotomy (pcH 30 S) (pcH 30 T) with q | q | q
      · exact absurd a2 (b5 S a3 q)
      · exact q
      · exact absurd b2 (a5 T b3 q)
    have h1 := a6 T b3 e.symm b2
    have h2 := b6 S a3 e a2
    omega
  · exact absurd a2 (b2 S a3 a4)
  · exact absurd b2 (a2 T b3 b4)
  · omega
theorem ylN_Y {φ : Fs} {it k x y : Nat} (hS : Sm it φ) (hG : Good φ) (hk : k ≤ 1) (hx : x < it) (hy : y < it) (hne : x ≠ y) : YS φ k x y (ylN φ it k x y 4 0) := by
  have key : ∀ m f, f + m = 4 → (∀ S', S' < 2 ^ φ.length → pcH 30 S' < f → ¬ Sol φ k x y S') → YS φ k x y (ylN φ it k x y m f) := by
    intro m
    induction m with
    | zero =>
      intro f hf hno
      exact Or.inr ⟨rfl, fun S' h1 h2 => hno S' h1 (by omega)⟩
    | succ m ih =>
      intro f hf hno
      have hz : (0 : Nat) < 2 ^ φ.length := Nat.pow_pos (by decide)
      have h0 : pcH 30 0 = 0 := pcH_0 30
      rw [ylN]
      by_cases e : lsY φ it k x y f 0 = -1
      · rw [if_pos e]
        refine ih (f + 1) (by omega) (fun S' h1 h2 hsol => ?_)
        by_cases e2 : pcH 30 S' < f
        · exact hno S' h1 e2 hsol
        · have := lsY_B hS hG hk hx hy hne hsol h1 (fun T t1 t2 => hno T t1 (by omega)) f 0 (fun i hi => by unfold bitN at hi; rw [Nat.zero_div] at hi; omega) hz (by omega)
          exact this.1 e
      · rw [if_neg e]
        obtain ⟨S, s1, s2, s3, s4⟩ := lsY_A hS hG hk hx hy hne f 0 hz e
        have hpf : pcH 30 S = f := by
          refine Nat.le_antisymm (by omega) (Nat.not_lt.mp (fun q => hno S s3 q s2))
        refine Or.inl ⟨S, s1, s2, s3, by omega, fun T t1 t2 => hno T t1 (by omega), fun T t1 t2 t3 => ?_⟩
        have := lsY_B hS hG hk hx hy hne t3 t1 (fun U u1 u2 => hno U u1 (by omega)) f 0 (fun i hi => by unfold bitN at hi; rw [Nat.zero_div] at hi; omega) hz (by omega)
        have := this.2
        omega
  exact key 4 0 rfl (fun S' _ h => absurd h (Nat.not_lt_zero _))
/-! facts left out by bits, as lists -/
def ksl (φ : Fs) (S : Nat) : Nat → Nat → Fs
  | _, 0 => []
  | w, c + 1 => (if S / 2 ^ w % 2 = 0 then [(kd φ w, fi φ w, se φ w)] else []) ++ ksl φ S (w + 1) c
theorem ksl_in {φ : Fs} {S : Nat} {q : Nat × Nat × Nat} : ∀ c w, q ∈ ksl φ S w c ↔ ∃ i, w ≤ i ∧ i < w + c ∧ S / 2 ^ i % 2 = 0 ∧ q = (kd φ i, fi φ i, se φ i)
  | 0, w => by
    constructor
    · intro h; cases h
    · rintro ⟨i, h1, h2, -⟩; omega
  | c + 1, w => by
    rw [ksl, List.mem_append, ksl_in c (w + 1)]
    constructor
    · rintro (h | ⟨i, h1, h2, h3, h4⟩)
      · split at h
        · rename_i e
          exact ⟨w, by omega, by omega, e, List.mem_singleton.mp h⟩
        · cases h
      · exact ⟨i, by omega, by omega, h3, h4⟩
    · rintro ⟨i, h1, h2, h3, h4⟩
      by_cases e : i = w
      · subst e
        rw [if_pos h3]
        exact Or.inl (List.mem_singleton.mpr h4)
      · exact Or.inr ⟨i, by omega, by omega, h3, h4⟩
theorem EF_mem {ψ : Fs} {k u v : Nat} : EF ψ 0 k u v ↔ ∃ q, q ∈ ψ ∧ q.1 = k ∧ ((q.2.1 = u ∧ q.2.2 = v) ∨ (k = 1 ∧ q.2.2 = u ∧ q.2.1 = v)) := by
  constructor
  · rintro ⟨i, h1, h2, h3, h4⟩
    exact ⟨_, fs_mem h1, h3, h4⟩
  · rintro ⟨q, h1, h2, h3⟩
    obtain ⟨i, hi, e⟩ := List.getElem_of_mem h1
    have e2 : ψ.getD i (0, 0, 0) = q := by rw [List.getD_eq_getElem?_getD, List.getElem?_eq_getElem hi, Option.getD_some, e]
    refine ⟨i, hi, bit0, ?_, ?_⟩
    · unfold kd; rw [e2]; exact h2
    · unfold fi se; rw [e2]; exact h3
theorem EF_ksl {φ : Fs} {S : Nat} (k u v : Nat) : EF (ksl φ S 0 φ.length) 0 k u v ↔ EF φ S k u v := by
  rw [EF_mem]
  constructor
  · rintro ⟨q, h1, h2, h3⟩
    obtain ⟨i, -, i2, i3, rfl⟩ := (ksl_in _ _).mp h1
    exact ⟨i, by omega, i3, h2, h3⟩
  · rintro ⟨i, h1, h2, h3, h4⟩
    exact ⟨_, (ksl_in _ _).mpr ⟨i, by omega, by omega, h2, rfl⟩, h3, h4⟩
theorem Sol_ksl {φ : Fs} {S k x y : Nat} (hk : k ≤ 1) : Good (ksl φ S 0 φ.length ++ [(k, x, y)]) ↔ Sol φ k x y S := by
  rw [Good_app hk]
  unfold Sol
  have e : EF (ksl φ S 0 φ.length) 0 = EF φ S := by funext k u v; exact propext (EF_ksl k u v)
  rw [e]
theorem ksl_y {φ : Fs} {S v : Nat} (h : v < φ.length) (hb : S / 2 ^ v % 2 = 0) : φ.take v ++ ksl φ S v (φ.length - v) = φ.take (v + 1) ++ ksl φ S (v + 1) (φ.length - (v + 1)) := by
  rw [show φ.length - v = φ.length - (v + 1) + 1 by omega, ksl, if_pos hb, take_s h, List.append_assoc]
theorem ksl_n {φ : Fs} {S v : Nat} (h : v < φ.length) (hb : ¬ S / 2 ^ v % 2 = 0) : φ.take v ++ ksl φ S v (φ.length - v) = fgt (φ.take (v + 1) ++ ksl φ S (v + 1) (φ.length - (v + 1))) v := by
  rw [show φ.length - v = φ.length - (v + 1) + 1 by omega, ksl, if_neg hb, take_s h, List.nil_append]
  unfold fgt
  rw [List.append_assoc, List.eraseIdx_append_of_length_le (by rw [List.length_take]; omega)]
  have : v - (φ.take v).length = 0 := by simp; omega
  rw [this]
  rfl
theorem ix_ksl {φ : Fs} {S x y : Nat} (h : ix φ (x : Int) (y : Int) = -1) : ix (ksl φ S 0 φ.length) (x : Int) (y : Int) = -1 := by
  refine ix_no (fun q hq g => ?_)
  obtain ⟨i, -, i2, i3, rfl⟩ := (ksl_in _ _).mp hq
  have := ix_none h i (by omega)
  unfold pm at this
  dsimp only at g
  omega
/-- so many bits: the highest, and the rest -/
theorem pc_top {S n : Nat} (hS : S < 2 ^ 30) (h : pcH 30 S = n + 1) : ∃ j T, S = T + 2 ^ j ∧ T < 2 ^ j ∧ pcH 30 T = n := by
  have hne : S ≠ 0 := fun e => by rw [e, pcH_0] at h; omega
  refine ⟨S.log2, S - 2 ^ S.log2, ?_, ?_, ?_⟩
  · have := Nat.log2_self_le hne; omega
  · have := Nat.lt_log2_self (n := S)
    rw [Nat.pow_succ] at this
    omega
  · have h1 := Nat.log2_self_le hne
    have h2 := Nat.lt_log2_self (n := S)
    rw [Nat.pow_succ] at h2
    have h3 : S.log2 < 30 := (Nat.log2_lt hne).mpr hS
    have := pcH_add S.log2 30 (S - 2 ^ S.log2) (by omega) h3
    rw [show S - 2 ^ S.log2 + 2 ^ S.log2 = S by omega, h] at this
    omega
theorem pc_0 {S : Nat} (hS : S < 2 ^ 30) (h : pcH 30 S = 0) : S = 0 := Sub_eq 30 0 S (by decide) hS (fun i hi => by unfold bitN at hi; rw [Nat.zero_div] at hi; omega) (by rw [pcH_0, h]) |>.symm
