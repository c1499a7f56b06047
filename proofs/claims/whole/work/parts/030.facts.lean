/-! the facts of the class: an object of four cells, a list of (kind, first, second) -/
abbrev Fs : Type := List (Nat × Nat × Nat)
def kd (φ : Fs) (i : Nat) : Nat := (φ.getD i (0, 0, 0)).1
def fi (φ : Fs) (i : Nat) : Nat := (φ.getD i (0, 0, 0)).2.1
def se (φ : Fs) (i : Nat) : Nat := (φ.getD i (0, 0, 0)).2.2
def Rows (φ : Fs) (K F S : Nat → Int) : Prop := ∀ i : Nat, i < φ.length → K i = kd φ i ∧ F i = fi φ i ∧ S i = se φ i
/-- few enough, of small numbers -/
def Sm (it : Nat) (φ : Fs) : Prop := it ≤ 8 ∧ φ.length ≤ 28 ∧ ∀ i : Nat, i < φ.length → kd φ i ≤ 1 ∧ fi φ i < it ∧ se φ i < it ∧ fi φ i ≠ se φ i ∧ ∀ j : Nat, j < i → ¬ ((fi φ j = fi φ i ∧ se φ j = se φ i) ∨ (fi φ j = se φ i ∧ se φ j = fi φ i))
def FA (G : Gx) (h : Hp) (a it : Nat) (φ : Fs) : Prop := ∃ K F S : Nat → Int, h a = some (ob 0 [vi (it : Int), vi (φ.length : Int), .ref (a + 1), .ref (a + 2), .ref (a + 3)]) ∧ h (a + 1) = some (ai G 28 K) ∧ h (a + 2) = some (ai G 28 F) ∧ h (a + 3) = some (ai G 28 S) ∧ Rows φ K F S
def bz (P : Prop) (z : Int) : Prop := (P ∧ z = 1) ∨ (¬ P ∧ z = 0)
theorem bz.t {P : Prop} {z : Int} (h : bz P z) (n : ¬ z = 0) : P := by rcases h with h | h; exact h.1; exact absurd h.2 n
theorem bz.f {P : Prop} {z : Int} (h : bz P z) (n : z = 0) : ¬ P := by rcases h with h | h; (have := h.2; omega); exact h.1
theorem bz.rg {P : Prop} {z : Int} (h : bz P z) : z = 0 ∨ z = 1 := by rcases h with h | h; exact Or.inr h.2; exact Or.inl h.2
theorem bz.r {P : Prop} {z : Int} (h : bz P z) : 0 ≤ z ∧ z ≤ 1 := by rcases h.rg with h | h <;> omega
theorem bz.y {P : Prop} (h : P) : bz P 1 := Or.inl ⟨h, rfl⟩
theorem bz.n {P : Prop} (h : ¬ P) : bz P 0 := Or.inr ⟨h, rfl⟩
def tgt (φ : Fs) (k : Nat) (p : Int) : Int := if (fi φ k : Int) = p then se φ k else if kd φ k = 1 ∧ (se φ k : Int) = p then fi φ k else -1
/-- the first number below n at which P holds; -1 -/
noncomputable def srN (P : Nat → Prop) : Nat → Nat → Int
  | 0, _ => -1
  | n + 1, k => haveI := Classical.propDecidable (P k); if P k then k else srN P n (k + 1)
noncomputable def sr (P : Nat → Prop) (n : Nat) : Int := srN P n 0
theorem srN_hit {P : Nat → Prop} : ∀ (n k i : Nat), k < n + i → i ≤ k → P k → (∀ j, i ≤ j → j < k → ¬ P j) → srN P n i = k
  | 0, k, i, h1, h2, _, _ => by omega
  | n + 1, k, i, h1, h2, hp, hn => by
    unfold srN
    by_cases hi : P i
    · rw [if_pos hi]
      by_cases e : i = k
      · rw [e]
      · exact absurd hi (hn i (Nat.le_refl i) (by omega))
    · rw [if_neg hi]
      have : i ≠ k := fun e => hi (e ▸ hp)
      exact srN_hit n k (i + 1) (by omega) (by omega) hp (fun j g1 g2 => hn j (by omega) g2)
theorem srN_miss {P : Nat → Prop} : ∀ (n i : Nat), (∀ j, i ≤ j → j < n + i → ¬ P j) → srN P n i = -1
  | 0, i, _ => rfl
  | n + 1, i, hn => by
    unfold srN
    rw [if_neg (hn i (Nat.le_refl i) (by omega))]
    exact srN_miss n (i + 1) (fun j g1 g2 => hn j (by omega) (by omega))
theorem sr_hit {P : Nat → Prop} {n k : Nat} (h1 : k < n) (hp : P k) (hn : ∀ j, j < k → ¬ P j) : sr P n = k := srN_hit n k 0 (by omega) (by omega) hp (fun j _ => hn j)
theorem sr_miss {P : Nat → Prop} {n : Nat} (hn : ∀ j, j < n → ¬ P j) : sr P n = -1 := srN_miss n 0 (fun j _ h => hn j (by omega))
theorem sr_is {P : Nat → Prop} {n : Nat} : (sr P n = -1 ∧ ∀ j, j < n → ¬ P j) ∨ ∃ k : Nat, sr P n = k ∧ k < n ∧ P k ∧ ∀ j, j < k → ¬ P j := by
  by_cases h : ∃ k, k < n ∧ P k
  · obtain ⟨k, hk, hm⟩ := pk_least _ h
    exact Or.inr ⟨k, sr_hit hk.1 hk.2 (fun j hj q => hm j hj ⟨by omega, q⟩), hk.1, hk.2, fun j hj q => hm j hj ⟨by omega, q⟩⟩
  · exact Or.inl ⟨sr_miss (fun j hj q => h ⟨j, hj, q⟩), fun j hj q => h ⟨j, hj, q⟩⟩
theorem lt_s2 {i : Nat} {p : Nat → Prop} (h : ∀ a, a < i → p a) (hi : p i) : ∀ a, a < i + 1 → p a := fun a ha => by rcases (show a < i ∨ a = i by omega) with q | rfl; exact h a q; exact hi
def pm (φ : Fs) (a b : Int) (k : Nat) : Prop := ((fi φ k : Int) = a ∧ (se φ k : Int) = b) ∨ ((fi φ k : Int) = b ∧ (se φ k : Int) = a)
noncomputable def ix (φ : Fs) (a b : Int) : Int := sr (pm φ a b) φ.length
def hasI (it : Nat) (p : Int) : Prop := 0 ≤ p ∧ p < it

set_option maxHeartbeats 600000 in
set_option maxRecDepth 100000 in
theorem c_X0_hasItem {G : Gx} {h : Hp} {nx a it : Nat} {φ : Fs} (hF : FA G h a it φ) (hS : Sm it φ) {p : Int} (rp : -2147483648 ≤ p ∧ p ≤ 2147483647) : Con G yX0_hasItem cX0_hasItem 2 (some .boolean) 1 0 0 [.ref a, vi p] h nx (PI fun z h' => h' = h ∧ bz (hasI it p) z) := by
  obtain ⟨K, F, S, ha, hk, hf, hs, hr⟩ := hF
  obtain ⟨h8, h28, hsm⟩ := hS
  refine Con.of v_X0_hasItem.2.2.2.2.2.1 (Nat.le_of_ble_eq_true rfl) (lv := [(0, .ref a), (1, vi p)]) rfl (fun X k => ?_)
  generalize hQQ : QM G X nx 0 0 _ = QQ
  refine g_iload_n k rfl dX0_hasItem_0 ?_
  refine g_if_lt k (tgt := 16) (by omega) dX0_hasItem_1 (by decide) (fun c1 => ?_) (fun c1 => ?_)
  · skip
    refine g_iconst k dX0_hasItem_16 ?_
    rw [← hQQ]
    refine g_zreti k (by omega) rfl dX0_hasItem_17 ?_
    refine ⟨rfl, ?_⟩
    first | exact bz.y (by unfold hasI; omega) | exact bz.n (by unfold hasI; omega)
  · skip
    refine g_iload_n k rfl dX0_hasItem_4 ?_
    refine g_aload_n k rfl dX0_hasItem_5 ?_
    refine g_get k 0 0 (C := RX0) (T := TX0) (N := 5) fl_X0_21 rfl wi_X0 (by decide) rfl ha rfl dX0_hasItem_6 ?_
    refine g_icmp_ge k (tgt := 16) (by omega) (by omega) dX0_hasItem_9 (by decide) (fun c9 => ?_) (fun c9 => ?_)
    · skip
      refine g_iconst k dX0_hasItem_16 ?_
      rw [← hQQ]
      refine g_zreti k (by omega) rfl dX0_hasItem_17 ?_
      refine ⟨rfl, ?_⟩
      first | exact bz.y (by unfold hasI; omega) | exact bz.n (by unfold hasI; omega)
    · skip
      refine g_iconst k dX0_hasItem_12 ?_
      refine g_goto k (tgt := 17) dX0_hasItem_13 (by decide) ?_
      rw [← hQQ]
      refine g_zreti k (by omega) rfl dX0_hasItem_17 ?_
      refine ⟨rfl, ?_⟩
      first | exact bz.y (by unfold hasI; omega) | exact bz.n (by unfold hasI; omega)

set_option maxHeartbeats 600000 in
set_option maxRecDepth 100000 in
theorem c_X0_hasFact {G : Gx} {h : Hp} {nx a it : Nat} {φ : Fs} (hF : FA G h a it φ) (hS : Sm it φ) {p : Int} (rp : -2147483648 ≤ p ∧ p ≤ 2147483647) : Con G yX0_hasFact cX0_hasFact 2 (some .boolean) 1 0 0 [.ref a, vi p] h nx (PI fun z h' => h' = h ∧ bz (hasI φ.length p) z) := by
  obtain ⟨K, F, S, ha, hk, hf, hs, hr⟩ := hF
  obtain ⟨h8, h28, hsm⟩ := hS
  refine Con.of v_X0_hasFact.2.2.2.2.2.1 (Nat.le_of_ble_eq_true rfl) (lv := [(0, .ref a), (1, vi p)]) rfl (fun X k => ?_)
  generalize hQQ : QM G X nx 0 0 _ = QQ
  refine g_iload_n k rfl dX0_hasFact_0 ?_
  refine g_if_lt k (tgt := 16) (by omega) dX0_hasFact_1 (by decide) (fun c1 => ?_) (fun c1 => ?_)
  · skip
    refine g_iconst k dX0_hasFact_16 ?_
    rw [← hQQ]
    refine g_zreti k (by omega) rfl dX0_hasFact_17 ?_
    refine ⟨rfl, ?_⟩
    first | exact bz.y (by unfold hasI; omega) | exact bz.n (by unfold hasI; omega)
  · skip
    refine g_iload_n k rfl dX0_hasFact_4 ?_
    refine g_aload_n k rfl dX0_hasFact_5 ?_
    refine g_get k 0 1 (C := RX0) (T := TX0) (N := 5) fl_X0_25 rfl wi_X0 (by decide) rfl ha rfl dX0_hasFact_6 ?_
    refine g_icmp_ge k (tgt := 16) (by omega) (by omega) dX0_hasFact_9 (by decide) (fun c9 => ?_) (fun c9 => ?_)
    · skip
      refine g_iconst k dX0_hasFact_16 ?_
      rw [← hQQ]
      refine g_zreti k (by omega) rfl dX0_hasFact_17 ?_
      refine ⟨rfl, ?_⟩
      first | exact bz.y (by unfold hasI; omega) | exact bz.n (by unfold hasI; omega)
    · skip
      refine g_iconst k dX0_hasFact_12 ?_
      refine g_goto k (tgt := 17) dX0_hasFact_13 (by decide) ?_
      rw [← hQQ]
      refine g_zreti k (by omega) rfl dX0_hasFact_17 ?_
      refine ⟨rfl, ?_⟩
      first | exact bz.y (by unfold hasI; omega) | exact bz.n (by unfold hasI; omega)

set_option maxHeartbeats 600000 in
set_option maxRecDepth 100000 in
theorem c_X0_hasPair {G : Gx} {h : Hp} {nx a it : Nat} {φ : Fs} (hF : FA G h a it φ) (hS : Sm it φ) {p q : Int} (rp : -2147483648 ≤ p ∧ p ≤ 2147483647) (rq : -2147483648 ≤ q ∧ q ≤ 2147483647) : Con G yX0_hasPair cX0_hasPair 3 (some .boolean) 2 0 0 [.ref a, vi p, vi q] h nx (PI fun z h' => h' = h ∧ bz (hasI it p ∧ hasI it q ∧ p ≠ q) z) := by
  have hF0 := hF
  have hS0 := hS
  obtain ⟨K, F, S, ha, hk, hf, hs, hr⟩ := hF
  obtain ⟨h8, h28, hsm⟩ := hS
  refine Con.of v_X0_hasPair.2.2.2.2.2.1 (Nat.le_of_ble_eq_true rfl) (lv := [(0, .ref a), (1, vi p), (2, vi q)]) rfl (fun X k => ?_)
  generalize hQQ : QM G X nx 0 0 _ = QQ
  refine g_aload_n k rfl dX0_hasPair_0 ?_
  refine g_iload_n k rfl dX0_hasPair_1 ?_
  refine g_cVi k 0 (As := [vi p]) v_X0_hasItem rfl rfl ha ml_X0_34 (c_X0_hasItem hF0 hS0 rp) (by omega) (by omega) rfl (Nat.le_of_ble_eq_true rfl) rfl dX0_hasPair_2 (fun r2 h2 p2 => ?_)
  obtain ⟨eh2, p2⟩ := p2
  have eh2 := eh2.symm; subst eh2
  have q2 := p2.r
  refine g_if_eq k (tgt := 25) (by omega) dX0_hasPair_5 (by decide) (fun c5 => ?_) (fun c5 => ?_)
  · skip
    refine g_iconst k dX0_hasPair_25 ?_
    rw [← hQQ]
    refine g_zreti k (by omega) rfl dX0_hasPair_26 ?_
    refine ⟨rfl, ?_⟩
    first | exact bz.y ⟨p2.t ‹_›, p10.t ‹_›, by omega⟩ | exact bz.n (fun q => absurd q.1 (p2.f ‹_›)) | exact bz.n (fun q => absurd q.2.1 (p10.f ‹_›)) | exact bz.n (fun q => absurd ‹_› q.2.2)
  · skip
    refine g_aload_n k rfl dX0_hasPair_8 ?_
    refine g_iload_n k rfl dX0_hasPair_9 ?_
    refine g_cVi k 0 (As := [vi q]) v_X0_hasItem rfl rfl ha ml_X0_34 (c_X0_hasItem hF0 hS0 rq) (by omega) (by omega) rfl (Nat.le_of_ble_eq_true rfl) rfl dX0_hasPair_10 (fun r10 h10 p10 => ?_)
    obtain ⟨eh10, p10⟩ := p10
    have eh10 := eh10.symm; subst eh10
    have q10 := p10.r
    refine g_if_eq k (tgt := 25) (by omega) dX0_hasPair_13 (by decide) (fun c13 => ?_) (fun c13 => ?_)
    · skip
      refine g_iconst k dX0_hasPair_25 ?_
      rw [← hQQ]
      refine g_zreti k (by omega) rfl dX0_hasPair_26 ?_
      refine ⟨rfl, ?_⟩
      first | exact bz.y ⟨p2.t ‹_›, p10.t ‹_›, by omega⟩ | exact bz.n (fun q => absurd q.1 (p2.f ‹_›)) | exact bz.n (fun q => absurd q.2.1 (p10.f ‹_›)) | exact bz.n (fun q => absurd ‹_› q.2.2)
    · skip
      refine g_iload_n k rfl dX0_hasPair_16 ?_
      refine g_iload_n k rfl dX0_hasPair_17 ?_
      refine g_icmp_eq k (tgt := 25) (by omega) (by omega) dX0_hasPair_18 (by decide) (fun c18 => ?_) (fun c18 => ?_)
      · skip
        refine g_iconst k dX0_hasPair_25 ?_
        rw [← hQQ]
        refine g_zreti k (by omega) rfl dX0_hasPair_26 ?_
        refine ⟨rfl, ?_⟩
        first | exact bz.y ⟨p2.t ‹_›, p10.t ‹_›, by omega⟩ | exact bz.n (fun q => absurd q.1 (p2.f ‹_›)) | exact bz.n (fun q => absurd q.2.1 (p10.f ‹_›)) | exact bz.n (fun q => absurd ‹_› q.2.2)
      · skip
        refine g_iconst k dX0_hasPair_21 ?_
        refine g_goto k (tgt := 26) dX0_hasPair_22 (by decide) ?_
        rw [← hQQ]
        refine g_zreti k (by omega) rfl dX0_hasPair_26 ?_
        refine ⟨rfl, ?_⟩
        first | exact bz.y ⟨p2.t ‹_›, p10.t ‹_›, by omega⟩ | exact bz.n (fun q => absurd q.1 (p2.f ‹_›)) | exact bz.n (fun q => absurd q.2.1 (p10.f ‹_›)) | exact bz.n (fun q => absurd ‹_› q.2.2)

def FC (G : Gx) (h : Hp) (a it n : Nat) (K F S : Nat → Int) : Prop := h a = some (ob 0 [vi (it : Int), vi (n : Int), .ref (a + 1), .ref (a + 2), .ref (a + 3)]) ∧ h (a + 1) = some (ai G 28 K) ∧ h (a + 2) = some (ai G 28 F) ∧ h (a + 3) = some (ai G 28 S)
theorem Rows.t {φ : Fs} {K F S : Nat → Int} (h : Rows φ K F S) {k : Nat} (hk : k < φ.length) : K k = kd φ k := (h k hk).1
theorem Rows.f {φ : Fs} {K F S : Nat → Int} (h : Rows φ K F S) {k : Nat} (hk : k < φ.length) : F k = fi φ k := (h k hk).2.1
theorem Rows.s {φ : Fs} {K F S : Nat → Int} (h : Rows φ K F S) {k : Nat} (hk : k < φ.length) : S k = se φ k := (h k hk).2.2
/-- which facts are BEFORE, as bits, of the first n -/
def bbF (φ : Fs) : Nat → Nat
  | 0 => 0
  | n + 1 => if kd φ n = 0 then bbF φ n ||| 2 ^ n else bbF φ n
theorem bbF_lt (φ : Fs) : ∀ n : Nat, bbF φ n < 2 ^ n
  | 0 => Nat.one_pos
  | n + 1 => by
    have h := bbF_lt φ n
    have h2 : 2 ^ (n + 1) = 2 ^ n + 2 ^ n := by rw [Nat.pow_succ]; omega
    unfold bbF
    split
    · exact Nat.or_lt_two_pow (by omega) (by omega)
    · omega
theorem pow31 {n : Nat} (h : n ≤ 30) : 2 ^ n < 2147483648 := Nat.lt_of_le_of_lt (Nat.pow_le_pow_right (by decide) h) (by decide)
theorem pow28 {n : Nat} (h : n ≤ 28) : 2 ^ n ≤ 268435456 := Nat.le_trans (Nat.pow_le_pow_right (by decide) h) (by decide)

set_option maxHeartbeats 600000 in
set_option maxRecDepth 100000 in
theorem c_X0_target {G : Gx} {h : Hp} {nx a it : Nat} {φ : Fs} (hF : FA G h a it φ) (hS : Sm it φ) {k1 : Nat} {p : Int} (rp : -2147483648 ≤ p ∧ p ≤ 2147483647) (hk1 : k1 < φ.length) : Con G yX0_target cX0_target 3 (some .int) 1 0 0 [.ref a, vi (k1 : Int), vi p] h nx (PI fun z h' => h' = h ∧ z = tgt φ k1 p) := by
  obtain ⟨K, F, S, ha, hk, hf, hs, hr⟩ := hF
  obtain ⟨h8, h28, hsm⟩ := hS
  have hb := hsm k1 hk1
  refine Con.of v_X0_target.2.2.2.2.2.1 (Nat.le_of_ble_eq_true rfl) (lv := [(0, .ref a), (1, vi (k1 : Int)), (2, vi p)]) rfl (fun X k => ?_)
  generalize hQQ : QM G X nx 0 0 _ = QQ
  refine g_aload_n k rfl dX0_target_0 ?_
  refine g_get k 0 3 (C := RX0) (T := TX0) (N := 5) fl_X0_15 rfl wi_X0 (by decide) rfl ha rfl dX0_target_1 ?_
  refine g_iload_n k rfl dX0_target_4 ?_
  refine g_iald k k1 hf (by omega) (by omega) (by decide) dX0_target_5 ?_
  rw [show F k1 = (fi φ k1 : Int) from hr.f hk1]
  refine g_iload_n k rfl dX0_target_6 ?_
  refine g_icmp_ne k (tgt := 17) (by omega) (by omega) dX0_target_7 (by decide) (fun c7 => ?_) (fun c7 => ?_)
  · skip
    refine g_aload_n k rfl dX0_target_17 ?_
    refine g_get k 0 2 (C := RX0) (T := TX0) (N := 5) fl_X0_9 rfl wi_X0 (by decide) rfl ha rfl dX0_target_18 ?_
    refine g_iload_n k rfl dX0_target_21 ?_
    refine g_iald k k1 hk (by omega) (by omega) (by decide) dX0_target_22 ?_
    rw [show K k1 = (kd φ k1 : Int) from hr.t hk1]
    refine g_iconst k dX0_target_23 ?_
    refine g_icmp_ne k (tgt := 46) (by omega) (by omega) dX0_target_24 (by decide) (fun c24 => ?_) (fun c24 => ?_)
    · skip
      refine g_iconst k dX0_target_46 ?_
      rw [← hQQ]
      refine g_ireti k rfl dX0_target_47 ?_
      exact ⟨rfl, by unfold tgt; rw [if_neg (by omega), if_neg (by omega)]⟩
    · skip
      refine g_aload_n k rfl dX0_target_27 ?_
      refine g_get k 0 4 (C := RX0) (T := TX0) (N := 5) fl_X0_18 rfl wi_X0 (by decide) rfl ha rfl dX0_target_28 ?_
      refine g_iload_n k rfl dX0_target_31 ?_
      refine g_iald k k1 hs (by omega) (by omega) (by decide) dX0_target_32 ?_
      rw [show S k1 = (se φ k1 : Int) from hr.s hk1]
      refine g_iload_n k rfl dX0_target_33 ?_
      refine g_icmp_ne k (tgt := 46) (by omega) (by omega) dX0_target_34 (by decide) (fun c34 => ?_) (fun c34 => ?_)
      · skip
        refine g_iconst k dX0_target_46 ?_
        rw [← hQQ]
        refine g_ireti k rfl dX0_target_47 ?_
        exact ⟨rfl, by unfold tgt; rw [if_neg (by omega), if_neg (by omega)]⟩
      · skip
        refine g_aload_n k rfl dX0_target_37 ?_
        refine g_get k 0 3 (C := RX0) (T := TX0) (N := 5) fl_X0_15 rfl wi_X0 (by decide) rfl ha rfl dX0_target_38 ?_
        refine g_iload_n k rfl dX0_target_41 ?_
        refine g_iald k k1 hf (by omega) (by omega) (by decide) dX0_target_42 ?_
        rw [show F k1 = (fi φ k1 : Int) from hr.f hk1]
        refine g_goto k (tgt := 47) dX0_target_43 (by decide) ?_
        rw [← hQQ]
        refine g_ireti k rfl dX0_target_47 ?_
        exact ⟨rfl, by unfold tgt; rw [if_neg (by omega), if_pos (by omega)]⟩
  · skip
    refine g_aload_n k rfl dX0_target_10 ?_
    refine g_get k 0 4 (C := RX0) (T := TX0) (N := 5) fl_X0_18 rfl wi_X0 (by decide) rfl ha rfl dX0_target_11 ?_
    refine g_iload_n k rfl dX0_target_14 ?_
    refine g_iald k k1 hs (by omega) (by omega) (by decide) dX0_target_15 ?_
    rw [show S k1 = (se φ k1 : Int) from hr.s hk1]
    rw [← hQQ]
    refine g_ireti k rfl dX0_target_16 ?_
    exact ⟨rfl, by unfold tgt; rw [if_pos (by omega)]⟩

set_option maxHeartbeats 600000 in
set_option maxRecDepth 100000 in
theorem c_X0_indexOf {G : Gx} {h : Hp} {nx a it : Nat} {φ : Fs} (hF : FA G h a it φ) (hS : Sm it φ) {p q : Int} (rp : -2147483648 ≤ p ∧ p ≤ 2147483647) (rq : -2147483648 ≤ q ∧ q ≤ 2147483647) : Con G yX0_indexOf cX0_indexOf 4 (some .int) 1 0 0 [.ref a, vi p, vi q] h nx (PI fun z h' => h' = h ∧ z = ix φ p q) := by
  obtain ⟨K, F, S, ha, hk, hf, hs, hr⟩ := hF
  obtain ⟨h8, h28, hsm⟩ := hS
  refine Con.of v_X0_indexOf.2.2.2.2.2.1 (Nat.le_of_ble_eq_true rfl) (lv := [(0, .ref a), (1, vi p), (2, vi q)]) rfl (fun X k => ?_)
  generalize hQQ : QM G X nx 0 0 _ = QQ
  refine g_iconst k dX0_indexOf_0 ?_
  refine g_istore_n k (lv2 := [(0, .ref a), (1, vi p), (2, vi q), (3, vi 0)]) (by decide) rfl rfl dX0_indexOf_1 ?_
  have K2 : ∀ (nz : Nat) (v : Nat) (hv : v ≤ φ.length) (hn : ∀ j, j < v → ¬ pm φ p q j) (hmz : φ.length - v < nz), Go G X 4 QQ 0 0 nx 2 [(0, .ref a), (1, vi p), (2, vi q), (3, vi (v : Int))] [] h := by
    intro nz
    induction nz with
    | zero => intro v hv hn hmz; exact absurd hmz (Nat.not_lt_zero _)
    | succ nz ih2 =>
      intro v hv hn hmz
      refine g_iload_n k rfl dX0_indexOf_2 ?_
      refine g_aload_n k rfl dX0_indexOf_3 ?_
      refine g_get k 0 1 (C := RX0) (T := TX0) (N := 5) fl_X0_25 rfl wi_X0 (by decide) rfl ha rfl dX0_indexOf_4 ?_
      refine g_icmp_ge k (tgt := 58) (by omega) (by omega) dX0_indexOf_7 (by decide) (fun c7 => ?_) (fun c7 => ?_)
      · skip
        refine g_iconst k dX0_indexOf_58 ?_
        rw [← hQQ]
        refine g_ireti k rfl dX0_indexOf_59 ?_
        exact ⟨rfl, (sr_miss (fun j hj => hn j (by omega))).symm⟩
      · skip
        have hb := hsm v (by omega)
        refine g_aload_n k rfl dX0_indexOf_10 ?_
        refine g_get k 0 3 (C := RX0) (T := TX0) (N := 5) fl_X0_15 rfl wi_X0 (by decide) rfl ha rfl dX0_indexOf_11 ?_
        refine g_iload_n k rfl dX0_indexOf_14 ?_
        refine g_iald k v hf (by omega) (by omega) (by decide) dX0_indexOf_15 ?_
        rw [show F v = (fi φ v : Int) from hr.f (by omega)]
        refine g_iload_n k rfl dX0_indexOf_16 ?_
        refine g_icmp_ne k (tgt := 30) (by omega) (by omega) dX0_indexOf_17 (by decide) (fun c17 => ?_) (fun c17 => ?_)
        · skip
          refine g_aload_n k rfl dX0_indexOf_30 ?_
          refine g_get k 0 3 (C := RX0) (T := TX0) (N := 5) fl_X0_15 rfl wi_X0 (by decide) rfl ha rfl dX0_indexOf_31 ?_
          refine g_iload_n k rfl dX0_indexOf_34 ?_
          refine g_iald k v hf (by omega) (by omega) (by decide) dX0_indexOf_35 ?_
          rw [show F v = (fi φ v : Int) from hr.f (by omega)]
          refine g_iload_n k rfl dX0_indexOf_36 ?_
          refine g_icmp_ne k (tgt := 52) (by omega) (by omega) dX0_indexOf_37 (by decide) (fun c37 => ?_) (fun c37 => ?_)
          · skip
            refine g_iinc k (lv2 := [(0, .ref a), (1, vi p), (2, vi q), (3, vi ((v : Int) + 1))]) rfl (by decide) rfl rfl dX0_indexOf_52 ?_
            refine g_goto k (tgt := 2) dX0_indexOf_55 (by decide) ?_
            exact ih2 (v + 1) (by omega) (lt_s2 hn (by unfold pm; omega)) (by omega)
          · skip
            refine g_aload_n k rfl dX0_indexOf_40 ?_
            refine g_get k 0 4 (C := RX0) (T := TX0) (N := 5) fl_X0_18 rfl wi_X0 (by decide) rfl ha rfl dX0_indexOf_41 ?_
            refine g_iload_n k rfl dX0_indexOf_44 ?_
            refine g_iald k v hs (by omega) (by omega) (by decide) dX0_indexOf_45 ?_
            rw [show S v = (se φ v : Int) from hr.s (by omega)]
            refine g_iload_n k rfl dX0_indexOf_46 ?_
            refine g_icmp_ne k (tgt := 52) (by omega) (by omega) dX0_indexOf_47 (by decide) (fun c47 => ?_) (fun c47 => ?_)
            · skip
              refine g_iinc k (lv2 := [(0, .ref a), (1, vi p), (2, vi q), (3, vi ((v : Int) + 1))]) rfl (by decide) rfl rfl dX0_indexOf_52 ?_
              refine g_goto k (tgt := 2) dX0_indexOf_55 (by decide) ?_
              exact ih2 (v + 1) (by omega) (lt_s2 hn (by unfold pm; omega)) (by omega)
            · skip
              refine g_iload_n k rfl dX0_indexOf_50 ?_
              rw [← hQQ]
              refine g_ireti k rfl dX0_indexOf_51 ?_
              exact ⟨rfl, (sr_hit (by omega) (by unfold pm; omega) hn).symm⟩
        · skip
          refine g_aload_n k rfl dX0_indexOf_20 ?_
          refine g_get k 0 4 (C := RX0) (T := TX0) (N := 5) fl_X0_18 rfl wi_X0 (by decide) rfl ha rfl dX0_indexOf_21 ?_
          refine g_iload_n k rfl dX0_indexOf_24 ?_
          refine g_iald k v hs (by omega) (by omega) (by decide) dX0_indexOf_25 ?_
          rw [show S v = (se φ v : Int) from hr.s (by omega)]
          refine g_iload_n k rfl dX0_indexOf_26 ?_
          refine g_icmp_eq k (tgt := 50) (by omega) (by omega) dX0_indexOf_27 (by decide) (fun c27 => ?_) (fun c27 => ?_)
          · skip
            refine g_iload_n k rfl dX0_indexOf_50 ?_
            rw [← hQQ]
            refine g_ireti k rfl dX0_indexOf_51 ?_
            exact ⟨rfl, (sr_hit (by omega) (by unfold pm; omega) hn).symm⟩
          · skip
            refine g_aload_n k rfl dX0_indexOf_30 ?_
            refine g_get k 0 3 (C := RX0) (T := TX0) (N := 5) fl_X0_15 rfl wi_X0 (by decide) rfl ha rfl dX0_indexOf_31 ?_
            refine g_iload_n k rfl dX0_indexOf_34 ?_
            refine g_iald k v hf (by omega) (by omega) (by decide) dX0_indexOf_35 ?_
            rw [show F v = (fi φ v : Int) from hr.f (by omega)]
            refine g_iload_n k rfl dX0_indexOf_36 ?_
            refine g_icmp_ne k (tgt := 52) (by omega) (by omega) dX0_indexOf_37 (by decide) (fun c37_1 => ?_) (fun c37_1 => ?_)
            · skip
              refine g_iinc k (lv2 := [(0, .ref a), (1, vi p), (2, vi q), (3, vi ((v : Int) + 1))]) rfl (by decide) rfl rfl dX0_indexOf_52 ?_
              refine g_goto k (tgt := 2) dX0_indexOf_55 (by decide) ?_
              exact ih2 (v + 1) (by omega) (lt_s2 hn (by unfold pm; omega)) (by omega)
            · skip
              refine g_aload_n k rfl dX0_indexOf_40 ?_
              refine g_get k 0 4 (C := RX0) (T := TX0) (N := 5) fl_X0_18 rfl wi_X0 (by decide) rfl ha rfl dX0_indexOf_41 ?_
              refine g_iload_n k rfl dX0_indexOf_44 ?_
              refine g_iald k v hs (by omega) (by omega) (by decide) dX0_indexOf_45 ?_
              rw [show S v = (se φ v : Int) from hr.s (by omega)]
              refine g_iload_n k rfl dX0_indexOf_46 ?_
              refine g_icmp_ne k (tgt := 52) (by omega) (by omega) dX0_indexOf_47 (by decide) (fun c47_1 => ?_) (fun c47_1 => ?_)
              · skip
                refine g_iinc k (lv2 := [(0, .ref a), (1, vi p), (2, vi q), (3, vi ((v : Int) + 1))]) rfl (by decide) rfl rfl dX0_indexOf_52 ?_
                refine g_goto k (tgt := 2) dX0_indexOf_55 (by decide) ?_
                exact ih2 (v + 1) (by omega) (lt_s2 hn (by unfold pm; omega)) (by omega)
              · skip
                refine g_iload_n k rfl dX0_indexOf_50 ?_
                rw [← hQQ]
                refine g_ireti k rfl dX0_indexOf_51 ?_
                exact ⟨rfl, (sr_hit (by omega) (by unfold pm; omega) hn).symm⟩
  exact K2 _ 0 (Nat.zero_le _) (fun j hj => absurd hj (Nat.not_lt_zero j)) (Nat.lt_succ_self _)

set_option maxHeartbeats 600000 in
set_option maxRecDepth 100000 in
theorem c_X0_beforeBits {G : Gx} {h : Hp} {nx a it : Nat} {φ : Fs} (hF : FA G h a it φ) (hS : Sm it φ) : Con G yX0_beforeBits cX0_beforeBits 3 (some .int) 1 0 0 [.ref a] h nx (PI fun z h' => h' = h ∧ z = (bbF φ φ.length : Nat)) := by
  obtain ⟨K, F, S, ha, hk, hf, hs, hr⟩ := hF
  obtain ⟨h8, h28, hsm⟩ := hS
  refine Con.of v_X0_beforeBits.2.2.2.2.2.1 (Nat.le_of_ble_eq_true rfl) (lv := [(0, .ref a)]) rfl (fun X k => ?_)
  generalize hQQ : QM G X nx 0 0 _ = QQ
  refine g_iconst k dX0_beforeBits_0 ?_
  refine g_istore_n k (lv2 := [(0, .ref a), (1, vi 0)]) (by decide) rfl rfl dX0_beforeBits_1 ?_
  refine g_iconst k dX0_beforeBits_2 ?_
  refine g_istore_n k (lv2 := [(0, .ref a), (1, vi 0), (2, vi 0)]) (by decide) rfl rfl dX0_beforeBits_3 ?_
  have K4 : ∀ (nz : Nat) (v : Nat) (hv : v ≤ φ.length) (hmz : φ.length - v < nz), Go G X 3 QQ 0 0 nx 4 [(0, .ref a), (1, vi (bbF φ v : Int)), (2, vi (v : Int))] [] h := by
    intro nz
    induction nz with
    | zero => intro v hv hmz; exact absurd hmz (Nat.not_lt_zero _)
    | succ nz ih4 =>
      intro v hv hmz
      refine g_iload_n k rfl dX0_beforeBits_4 ?_
      refine g_aload_n k rfl dX0_beforeBits_5 ?_
      refine g_get k 0 1 (C := RX0) (T := TX0) (N := 5) fl_X0_25 rfl wi_X0 (by decide) rfl ha rfl dX0_beforeBits_6 ?_
      refine g_icmp_ge k (tgt := 33) (by omega) (by omega) dX0_beforeBits_9 (by decide) (fun c9 => ?_) (fun c9 => ?_)
      · skip
        refine g_iload_n k rfl dX0_beforeBits_33 ?_
        rw [← hQQ]
        refine g_ireti k rfl dX0_beforeBits_34 ?_
        exact ⟨rfl, by rw [show v = φ.length by omega]⟩
      · skip
        have hb := hsm v (by omega)
        have hp := pow31 (n := v) (by omega)
        have hq := bbF_lt φ v
        refine g_aload_n k rfl dX0_beforeBits_12 ?_
        refine g_get k 0 2 (C := RX0) (T := TX0) (N := 5) fl_X0_9 rfl wi_X0 (by decide) rfl ha rfl dX0_beforeBits_13 ?_
        refine g_iload_n k rfl dX0_beforeBits_16 ?_
        refine g_iald k v hk (by omega) (by omega) (by decide) dX0_beforeBits_17 ?_
        rw [show K v = (kd φ v : Int) from hr.t (by omega)]
        refine g_if_ne k (tgt := 27) (by omega) dX0_beforeBits_18 (by decide) (fun c18 => ?_) (fun c18 => ?_)
        · skip
          refine g_iinc k (lv2 := [(0, .ref a), (1, vi (bbF φ v : Int)), (2, vi ((v : Int) + 1))]) rfl (by decide) rfl rfl dX0_beforeBits_27 ?_
          refine g_goto k (tgt := 4) dX0_beforeBits_30 (by decide) ?_
          rw [show (bbF φ v : Int) = (bbF φ (v + 1) : Nat) by rw [show bbF φ (v + 1) = bbF φ v by rw [bbF, if_neg (by omega)]]]
          exact ih4 (v + 1) (by omega) (by omega)
        · skip
          refine g_iload_n k rfl dX0_beforeBits_21 ?_
          refine g_iconst k dX0_beforeBits_22 ?_
          refine g_iload_n k rfl dX0_beforeBits_23 ?_
          refine g_ishl k (by omega) dX0_beforeBits_24 ?_
          rw [show 1 * 2 ^ ((v : Int)).toNat = ((2 ^ v : Nat) : Int) from (by rw [Int.toNat_natCast]; simp)]
          refine g_ior k (a := bbF φ v) (b := 2 ^ v) (by omega) (by omega) dX0_beforeBits_25 ?_
          refine g_istore_n k (lv2 := [(0, .ref a), (1, vi ((bbF φ v ||| 2 ^ v : Nat) : Int)), (2, vi (v : Int))]) (by decide) rfl rfl dX0_beforeBits_26 ?_
          refine g_iinc k (lv2 := [(0, .ref a), (1, vi ((bbF φ v ||| 2 ^ v : Nat) : Int)), (2, vi ((v : Int) + 1))]) rfl (by decide) rfl rfl dX0_beforeBits_27 ?_
          refine g_goto k (tgt := 4) dX0_beforeBits_30 (by decide) ?_
          rw [show ((bbF φ v ||| 2 ^ v : Nat) : Int) = (bbF φ (v + 1) : Nat) by rw [show bbF φ (v + 1) = bbF φ v ||| 2 ^ v by rw [bbF, if_pos (by omega)]]]
          exact ih4 (v + 1) (by omega) (by omega)
  exact K4 _ 0 (Nat.zero_le _) (Nat.lt_succ_self _)

set_option maxHeartbeats 600000 in
set_option maxRecDepth 100000 in
theorem c_X0_add {G : Gx} {h : Hp} {nx a it n : Nat} {K F S : Nat → Int} (hF : FC G h a it n K F S) (hn : n < 28) {x y z : Int} : Con G yX0_add cX0_add 4 none 1 0 0 [.ref a, vi x, vi y, vi z] h nx (PV fun h' => FC G h' a it (n + 1) (fu K n x) (fu F n y) (fu S n z) ∧ ∀ q : Nat, (q < a ∨ a + 3 < q) → h' q = h q) := by
  obtain ⟨ha, hk, hf, hs⟩ := hF
  refine Con.of v_X0_add.2.2.2.2.2.1 (Nat.le_of_ble_eq_true rfl) (lv := [(0, .ref a), (1, vi x), (2, vi y), (3, vi z)]) rfl (fun X k => ?_)
  generalize hQQ : QM G X nx 0 0 _ = QQ
  have fr0 : ∀ q : Nat, (q < a ∨ a + 3 < q) → h q = h q := fun _ _ => rfl
  refine g_aload_n k rfl dX0_add_0 ?_
  refine g_get k 0 1 (C := RX0) (T := TX0) (N := 5) fl_X0_25 rfl wi_X0 (by decide) rfl ha rfl dX0_add_1 ?_
  refine g_bipush k rfl dX0_add_4 ?_
  refine g_icmp_ge k (tgt := 49) (by omega) (by omega) dX0_add_6 (by decide) (fun c6 => ?_) (fun c6 => ?_)
  · skip
    omega
  · skip
    refine g_aload_n k rfl dX0_add_9 ?_
    refine g_get k 0 2 (C := RX0) (T := TX0) (N := 5) fl_X0_9 rfl wi_X0 (by decide) rfl ha rfl dX0_add_10 ?_
    refine g_aload_n k rfl dX0_add_13 ?_
    refine g_get k 0 1 (C := RX0) (T := TX0) (N := 5) fl_X0_25 rfl wi_X0 (by decide) rfl ha rfl dX0_add_14 ?_
    refine g_iload_n k rfl dX0_add_17 ?_
    refine g_iast k n hk (by omega) (by omega) (by decide) dX0_add_18 (fun h18 eh18 => ?_)
    have ha_ : h18 a = some (ob 0 [vi (it : Int), vi (n : Int), .ref (a + 1), .ref (a + 2), .ref (a + 3)]) := (congrFun eh18 _).trans ((hup_n (by omega)).trans ha)
    have hk_ : h18 (a + 1) = some (ai G 28 (fu K n x)) := (congrFun eh18 _).trans hup_s
    have hf_ : h18 (a + 2) = some (ai G 28 F) := (congrFun eh18 _).trans ((hup_n (by omega)).trans hf)
    have hs_ : h18 (a + 3) = some (ai G 28 S) := (congrFun eh18 _).trans ((hup_n (by omega)).trans hs)
    have fr_ : ∀ q : Nat, (q < a ∨ a + 3 < q) → h18 q = h q := fun q hq => (congrFun eh18 q).trans ((hup_n (by omega)).trans (fr0 q hq))
    refine g_aload_n k rfl dX0_add_19 ?_
    refine g_get k 0 3 (C := RX0) (T := TX0) (N := 5) fl_X0_15 rfl wi_X0 (by decide) rfl ha_ rfl dX0_add_20 ?_
    refine g_aload_n k rfl dX0_add_23 ?_
    refine g_get k 0 1 (C := RX0) (T := TX0) (N := 5) fl_X0_25 rfl wi_X0 (by decide) rfl ha_ rfl dX0_add_24 ?_
    refine g_iload_n k rfl dX0_add_27 ?_
    refine g_iast k n hf_ (by omega) (by omega) (by decide) dX0_add_28 (fun h28 eh28 => ?_)
    have ha__1 : h28 a = some (ob 0 [vi (it : Int), vi (n : Int), .ref (a + 1), .ref (a + 2), .ref (a + 3)]) := (congrFun eh28 _).trans ((hup_n (by omega)).trans ha_)
    have hk__1 : h28 (a + 1) = some (ai G 28 (fu K n x)) := (congrFun eh28 _).trans ((hup_n (by omega)).trans hk_)
    have hf__1 : h28 (a + 2) = some (ai G 28 (fu F n y)) := (congrFun eh28 _).trans hup_s
    have hs__1 : h28 (a + 3) = some (ai G 28 S) := (congrFun eh28 _).trans ((hup_n (by omega)).trans hs_)
    have fr__1 : ∀ q : Nat, (q < a ∨ a + 3 < q) → h28 q = h q := fun q hq => (congrFun eh28 q).trans ((hup_n (by omega)).trans (fr_ q hq))
    refine g_aload_n k rfl dX0_add_29 ?_
    refine g_get k 0 4 (C := RX0) (T := TX0) (N := 5) fl_X0_18 rfl wi_X0 (by decide) rfl ha__1 rfl dX0_add_30 ?_
    refine g_aload_n k rfl dX0_add_33 ?_
    refine g_get k 0 1 (C := RX0) (T := TX0) (N := 5) fl_X0_25 rfl wi_X0 (by decide) rfl ha__1 rfl dX0_add_34 ?_
    refine g_iload_n k rfl dX0_add_37 ?_
    refine g_iast k n hs__1 (by omega) (by omega) (by decide) dX0_add_38 (fun h38 eh38 => ?_)
    have ha__2 : h38 a = some (ob 0 [vi (it : Int), vi (n : Int), .ref (a + 1), .ref (a + 2), .ref (a + 3)]) := (congrFun eh38 _).trans ((hup_n (by omega)).trans ha__1)
    have hk__2 : h38 (a + 1) = some (ai G 28 (fu K n x)) := (congrFun eh38 _).trans ((hup_n (by omega)).trans hk__1)
    have hf__2 : h38 (a + 2) = some (ai G 28 (fu F n y)) := (congrFun eh38 _).trans ((hup_n (by omega)).trans hf__1)
    have hs__2 : h38 (a + 3) = some (ai G 28 (fu S n z)) := (congrFun eh38 _).trans hup_s
    have fr__2 : ∀ q : Nat, (q < a ∨ a + 3 < q) → h38 q = h q := fun q hq => (congrFun eh38 q).trans ((hup_n (by omega)).trans (fr__1 q hq))
    refine g_aload_n k rfl dX0_add_39 ?_
    refine g_dup k rfl dX0_add_40 ?_
    refine g_get k 0 1 (C := RX0) (T := TX0) (N := 5) fl_X0_25 rfl wi_X0 (by decide) rfl ha__2 rfl dX0_add_41 ?_
    refine g_iconst k dX0_add_44 ?_
    refine g_iadd k dX0_add_45 ?_
    refine g_put k 0 1 (C := RX0) (T := TX0) (N := 5) fl_X0_25 rfl wi_X0 tyX0 tyX0_ok nmX0 (by decide) rfl rfl rfl rfl ha__2 (Nat.le_of_ble_eq_true rfl) (fs2 := [vi (it : Int), vi ((n : Int) + 1), .ref (a + 1), .ref (a + 2), .ref (a + 3)]) rfl rfl dX0_add_46 (fun h46 eh46 => ?_)
    have ha__3 : h46 a = some (ob 0 [vi (it : Int), vi ((n : Int) + 1), .ref (a + 1), .ref (a + 2), .ref (a + 3)]) := (congrFun eh46 _).trans hup_s
    have hk__3 : h46 (a + 1) = some (ai G 28 (fu K n x)) := (congrFun eh46 _).trans ((hup_n (by omega)).trans hk__2)
    have hf__3 : h46 (a + 2) = some (ai G 28 (fu F n y)) := (congrFun eh46 _).trans ((hup_n (by omega)).trans hf__2)
    have hs__3 : h46 (a + 3) = some (ai G 28 (fu S n z)) := (congrFun eh46 _).trans ((hup_n (by omega)).trans hs__2)
    have fr__3 : ∀ q : Nat, (q < a ∨ a + 3 < q) → h46 q = h q := fun q hq => (congrFun eh46 q).trans ((hup_n (by omega)).trans (fr__2 q hq))
    rw [← hQQ]
    refine g_retv k rfl dX0_add_49 ?_
    exact ⟨⟨ha__3, hk__3, hf__3, hs__3⟩, fr__3⟩

set_option maxHeartbeats 600000 in
set_option maxRecDepth 100000 in
theorem c_X0_clear {G : Gx} {h : Hp} {nx a it n : Nat} {K F S : Nat → Int} (hF : FC G h a it n K F S) : Con G yX0_clear cX0_clear 1 none 1 0 0 [.ref a] h nx (PV fun h' => FC G h' a 0 0 K F S ∧ ∀ q : Nat, (q < a ∨ a + 3 < q) → h' q = h q) := by
  obtain ⟨ha, hk, hf, hs⟩ := hF
  refine Con.of v_X0_clear.2.2.2.2.2.1 (Nat.le_of_ble_eq_true rfl) (lv := [(0, .ref a)]) rfl (fun X k => ?_)
  generalize hQQ : QM G X nx 0 0 _ = QQ
  have fr0 : ∀ q : Nat, (q < a ∨ a + 3 < q) → h q = h q := fun _ _ => rfl
  refine g_aload_n k rfl dX0_clear_0 ?_
  refine g_iconst k dX0_clear_1 ?_
  refine g_put k 0 0 (C := RX0) (T := TX0) (N := 5) fl_X0_21 rfl wi_X0 tyX0 tyX0_ok nmX0 (by decide) rfl rfl rfl rfl ha (Nat.le_of_ble_eq_true rfl) (fs2 := [vi 0, vi (n : Int), .ref (a + 1), .ref (a + 2), .ref (a + 3)]) rfl rfl dX0_clear_2 (fun h2 eh2 => ?_)
  have ha_ : h2 a = some (ob 0 [vi 0, vi (n : Int), .ref (a + 1), .ref (a + 2), .ref (a + 3)]) := (congrFun eh2 _).trans hup_s
  have hk_ : h2 (a + 1) = some (ai G 28 K) := (congrFun eh2 _).trans ((hup_n (by omega)).trans hk)
  have hf_ : h2 (a + 2) = some (ai G 28 F) := (congrFun eh2 _).trans ((hup_n (by omega)).trans hf)
  have hs_ : h2 (a + 3) = some (ai G 28 S) := (congrFun eh2 _).trans ((hup_n (by omega)).trans hs)
  have fr_ : ∀ q : Nat, (q < a ∨ a + 3 < q) → h2 q = h q := fun q hq => (congrFun eh2 q).trans ((hup_n (by omega)).trans (fr0 q hq))
  refine g_aload_n k rfl dX0_clear_5 ?_
  refine g_iconst k dX0_clear_6 ?_
  refine g_put k 0 1 (C := RX0) (T := TX0) (N := 5) fl_X0_25 rfl wi_X0 tyX0 tyX0_ok nmX0 (by decide) rfl rfl rfl rfl ha_ (Nat.le_of_ble_eq_true rfl) (fs2 := [vi 0, vi 0, .ref (a + 1), .ref (a + 2), .ref (a + 3)]) rfl rfl dX0_clear_7 (fun h7 eh7 => ?_)
  have ha__1 : h7 a = some (ob 0 [vi 0, vi 0, .ref (a + 1), .ref (a + 2), .ref (a + 3)]) := (congrFun eh7 _).trans hup_s
  have hk__1 : h7 (a + 1) = some (ai G 28 K) := (congrFun eh7 _).trans ((hup_n (by omega)).trans hk_)
  have hf__1 : h7 (a + 2) = some (ai G 28 F) := (congrFun eh7 _).trans ((hup_n (by omega)).trans hf_)
  have hs__1 : h7 (a + 3) = some (ai G 28 S) := (congrFun eh7 _).trans ((hup_n (by omega)).trans hs_)
  have fr__1 : ∀ q : Nat, (q < a ∨ a + 3 < q) → h7 q = h q := fun q hq => (congrFun eh7 q).trans ((hup_n (by omega)).trans (fr_ q hq))
  rw [← hQQ]
  refine g_retv k rfl dX0_clear_10 ?_
  exact ⟨⟨ha__1, hk__1, hf__1, hs__1⟩, fr__1⟩

/-- the row f without its k-th -/
def cutK (f : Nat → Int) (k j : Nat) : Int := if j < k then f j else f (j + 1)
set_option maxHeartbeats 600000 in
set_option maxRecDepth 100000 in
theorem c_X0_remove {G : Gx} {h : Hp} {nx a it n : Nat} {K F S : Nat → Int} (hF : FC G h a it n K F S) (hn : n ≤ 28) {k1 : Nat} (hk1 : k1 < n) : Con G yX0_remove cX0_remove 4 none 2 0 0 [.ref a, vi (k1 : Int)] h nx (PV fun h' => (∃ K2 F2 S2 : Nat → Int, FC G h' a it (n - 1) K2 F2 S2 ∧ ∀ j, j < n - 1 → K2 j = cutK K k1 j ∧ F2 j = cutK F k1 j ∧ S2 j = cutK S k1 j) ∧ ∀ q : Nat, (q < a ∨ a + 3 < q) → h' q = h q) := by
  obtain ⟨ha, hk, hf, hs⟩ := hF
  refine Con.of v_X0_remove.2.2.2.2.2.1 (Nat.le_of_ble_eq_true rfl) (lv := [(0, .ref a), (1, vi (k1 : Int))]) rfl (fun X k => ?_)
  generalize hQQ : QM G X nx 0 0 _ = QQ
  have fr0 : ∀ q : Nat, (q < a ∨ a + 3 < q) → h q = h q := fun _ _ => rfl
  refine g_aload_n k rfl dX0_remove_0 ?_
  refine g_get k 0 1 (C := RX0) (T := TX0) (N := 5) fl_X0_25 rfl wi_X0 (by decide) rfl ha rfl dX0_remove_1 ?_
  refine g_istore_n k (lv2 := [(0, .ref a), (1, vi (k1 : Int)), (2, vi (n : Int))]) (by decide) rfl rfl dX0_remove_4 ?_
  refine g_aload_n k rfl dX0_remove_5 ?_
  refine g_iload_n k rfl dX0_remove_6 ?_
  refine g_put k 0 1 (C := RX0) (T := TX0) (N := 5) fl_X0_25 rfl wi_X0 tyX0 tyX0_ok nmX0 (by decide) rfl rfl rfl rfl ha (Nat.le_of_ble_eq_true rfl) (fs2 := [vi (it : Int), vi (k1 : Int), .ref (a + 1), .ref (a + 2), .ref (a + 3)]) rfl rfl dX0_remove_7 (fun h7 eh7 => ?_)
  have ha_ : h7 a = some (ob 0 [vi (it : Int), vi (k1 : Int), .ref (a + 1), .ref (a + 2), .ref (a + 3)]) := (congrFun eh7 _).trans hup_s
  have hk_ : h7 (a + 1) = some (ai G 28 K) := (congrFun eh7 _).trans ((hup_n (by omega)).trans hk)
  have hf_ : h7 (a + 2) = some (ai G 28 F) := (congrFun eh7 _).trans ((hup_n (by omega)).trans hf)
  have hs_ : h7 (a + 3) = some (ai G 28 S) := (congrFun eh7 _).trans ((hup_n (by omega)).trans hs)
  have fr_ : ∀ q : Nat, (q < a ∨ a + 3 < q) → h7 q = h q := fun q hq => (congrFun eh7 q).trans ((hup_n (by omega)).trans (fr0 q hq))
  refine g_iload_n k rfl dX0_remove_10 ?_
  refine g_iconst k dX0_remove_11 ?_
  refine g_iadd k dX0_remove_12 ?_
  refine g_istore_n k (lv2 := [(0, .ref a), (1, vi (k1 : Int)), (2, vi (n : Int)), (3, vi ((k1 : Int) + 1))]) (by decide) rfl rfl dX0_remove_13 ?_
  have K14 : ∀ (nz : Nat) (v : Nat) (c : Nat) (K2 : Nat → Int) (F2 : Nat → Int) (S2 : Nat → Int) (h14 : Hp) (ha__1 : h14 a = some (ob 0 [vi (it : Int), vi (c : Int), .ref (a + 1), .ref (a + 2), .ref (a + 3)])) (hk__1 : h14 (a + 1) = some (ai G 28 K2)) (hf__1 : h14 (a + 2) = some (ai G 28 F2)) (hs__1 : h14 (a + 3) = some (ai G 28 S2)) (fr__1 : ∀ q : Nat, (q < a ∨ a + 3 < q) → h14 q = h q) (hc : c + 1 = v) (hv : k1 < v ∧ v ≤ n) (hd : ∀ j, j < c → K2 j = cutK K k1 j ∧ F2 j = cutK F k1 j ∧ S2 j = cutK S k1 j) (hu : ∀ j, v ≤ j → K2 j = K j ∧ F2 j = F j ∧ S2 j = S j) (hmz : n - v < nz), Go G X 4 QQ 0 0 nx 14 [(0, .ref a), (1, vi (k1 : Int)), (2, vi (n : Int)), (3, vi (v : Int))] [] h14 := by
    intro nz
    induction nz with
    | zero => intro v c K2 F2 S2 h14 ha__1 hk__1 hf__1 hs__1 fr__1 hc hv hd hu hmz; exact absurd hmz (Nat.not_lt_zero _)
    | succ nz ih14 =>
      intro v c K2 F2 S2 h14 ha__1 hk__1 hf__1 hs__1 fr__1 hc hv hd hu hmz
      refine g_iload_n k rfl dX0_remove_14 ?_
      refine g_iload_n k rfl dX0_remove_15 ?_
      refine g_icmp_ge k (tgt := 47) (by omega) (by omega) dX0_remove_16 (by decide) (fun c16 => ?_) (fun c16 => ?_)
      · skip
        rw [← hQQ]
        refine g_retv k rfl dX0_remove_47 ?_
        have e : c = n - 1 := by omega
        subst e
        exact ⟨⟨K2, F2, S2, ⟨ha__1, hk__1, hf__1, hs__1⟩, hd⟩, fr__1⟩
      · skip
        refine g_aload_n k rfl dX0_remove_19 ?_
        refine g_aload_n k rfl dX0_remove_20 ?_
        refine g_get k 0 2 (C := RX0) (T := TX0) (N := 5) fl_X0_9 rfl wi_X0 (by decide) rfl ha__1 rfl dX0_remove_21 ?_
        refine g_iload_n k rfl dX0_remove_24 ?_
        refine g_iald k v hk__1 (by omega) (by omega) (by decide) dX0_remove_25 ?_
        refine g_aload_n k rfl dX0_remove_26 ?_
        refine g_get k 0 3 (C := RX0) (T := TX0) (N := 5) fl_X0_15 rfl wi_X0 (by decide) rfl ha__1 rfl dX0_remove_27 ?_
        refine g_iload_n k rfl dX0_remove_30 ?_
        refine g_iald k v hf__1 (by omega) (by omega) (by decide) dX0_remove_31 ?_
        refine g_aload_n k rfl dX0_remove_32 ?_
        refine g_get k 0 4 (C := RX0) (T := TX0) (N := 5) fl_X0_18 rfl wi_X0 (by decide) rfl ha__1 rfl dX0_remove_33 ?_
        refine g_iload_n k rfl dX0_remove_36 ?_
        refine g_iald k v hs__1 (by omega) (by omega) (by decide) dX0_remove_37 ?_
        refine g_cVv k 0 (As := [vi (K2 v), vi (F2 v), vi (S2 v)]) v_X0_add rfl rfl ha__1 ml_X0_38 (c_X0_add ⟨ha__1, hk__1, hf__1, hs__1⟩ (by omega)) (by omega) (by omega) rfl (Nat.le_of_ble_eq_true rfl) rfl dX0_remove_38 (fun h38 p38 => ?_)
        obtain ⟨⟨na, nk, nf, ns⟩, nfr⟩ := p38
        have ha__2 : h38 a = some (ob 0 [vi (it : Int), vi ((c + 1 : Nat) : Int), .ref (a + 1), .ref (a + 2), .ref (a + 3)]) := na
        have hk__2 : h38 (a + 1) = some (ai G 28 (fu K2 c (K2 v))) := nk
        have hf__2 : h38 (a + 2) = some (ai G 28 (fu F2 c (F2 v))) := nf
        have hs__2 : h38 (a + 3) = some (ai G 28 (fu S2 c (S2 v))) := ns
        have fr__2 : ∀ q : Nat, (q < a ∨ a + 3 < q) → h38 q = h q := fun q hq => (nfr q (by omega)).trans (fr__1 q hq)
        refine g_iinc k (lv2 := [(0, .ref a), (1, vi (k1 : Int)), (2, vi (n : Int)), (3, vi ((v : Int) + 1))]) rfl (by decide) rfl rfl dX0_remove_41 ?_
        refine g_goto k (tgt := 14) dX0_remove_44 (by decide) ?_
        exact ih14 (v + 1) (c + 1) (fu K2 c (K2 v)) (fu F2 c (F2 v)) (fu S2 c (S2 v)) h38 ha__2 hk__2 hf__2 hs__2 fr__2 (by omega) (by omega) (lt_s2 (fun j hj => by rw [fu_n (by omega), fu_n (by omega), fu_n (by omega)]; exact hd j hj) (by rw [fu_s, fu_s, fu_s, (hu v (by omega)).1, (hu v (by omega)).2.1, (hu v (by omega)).2.2, ← hc]; simp [cutK, show ¬ c < k1 by omega])) (fun j hj => by rw [fu_n (by omega), fu_n (by omega), fu_n (by omega)]; exact hu j (by omega)) (by omega)
  exact K14 _ (k1 + 1) k1 K F S h7 ha_ hk_ hf_ hs_ fr_ (by omega) (by omega) (fun j hj => by simp [cutK, hj]) (fun j _ => ⟨rfl, rfl, rfl⟩) (Nat.lt_succ_self _)

/-- facts behind the going of an item -/
def dI (i x : Nat) : Nat := if i < x then x - 1 else x
def drp (i : Nat) : Fs → Fs
  | [] => []
  | q :: t => if q.2.1 = i ∨ q.2.2 = i then drp i t else (q.1, dI i q.2.1, dI i q.2.2) :: drp i t
theorem drp_app (i : Nat) : ∀ (l m : Fs), drp i (l ++ m) = drp i l ++ drp i m
  | [], m => rfl
  | q :: t, m => by
    have e := drp_app i t m
    rw [List.cons_append, drp, drp, e]
    split
    · rfl
    · rfl
theorem drp_len (i : Nat) : ∀ l : Fs, (drp i l).length ≤ l.length
  | [] => Nat.le_refl _
  | q :: t => by
    have := drp_len i t
    unfold drp
    split
    · simp; omega
    · simp; omega
theorem fs_at {φ : Fs} {k : Nat} (h : k < φ.length) : φ.getD k (0, 0, 0) = (kd φ k, fi φ k, se φ k) := rfl
theorem take_s {φ : Fs} {k : Nat} (h : k < φ.length) : φ.take (k + 1) = φ.take k ++ [(kd φ k, fi φ k, se φ k)] := by
  rw [List.take_succ_eq_append_getElem h]
  congr 2
  unfold kd fi se
  rw [List.getD_eq_getElem?_getD, List.getElem?_eq_getElem h]
  rfl
theorem Rows.add {φ : Fs} {K F S : Nat → Int} (h : Rows φ K F S) {x y z : Nat} : Rows (φ ++ [(x, y, z)]) (fu K φ.length x) (fu F φ.length y) (fu S φ.length z) := by
  intro i hi
  rw [List.length_append, List.length_singleton] at hi
  by_cases e : i = φ.length
  · subst e
    rw [fu_s, fu_s, fu_s]
    simp [kd, fi, se, List.getD_eq_getElem?_getD]
  · have hl : i < φ.length := by omega
    rw [fu_n e, fu_n e, fu_n e]
    have := h i hl
    simp only [kd, fi, se, List.getD_eq_getElem?_getD, List.getElem?_append_left hl] at this ⊢
    exact this
theorem Rows.nil {K F S : Nat → Int} : Rows [] K F S := fun i h => absurd h (Nat.not_lt_zero i)

set_option maxHeartbeats 600000 in
set_option maxRecDepth 100000 in
theorem c_X0_removeItem {G : Gx} {h : Hp} {nx a it : Nat} {φ : Fs} (hF : FA G h a it φ) (hS : Sm it φ) {i1 : Nat} (hi1 : i1 < it) : Con G yX0_removeItem cX0_removeItem 6 none 2 0 0 [.ref a, vi (i1 : Int)] h nx (PV fun h' => FA G h' a (it - 1) (drp i1 φ) ∧ ∀ q : Nat, (q < a ∨ a + 3 < q) → h' q = h q) := by
  obtain ⟨K, F, S, ha, hk, hf, hs, hr⟩ := hF
  obtain ⟨h8, h28, hsm⟩ := hS
  refine Con.of v_X0_removeItem.2.2.2.2.2.1 (Nat.le_of_ble_eq_true rfl) (lv := [(0, .ref a), (1, vi (i1 : Int))]) rfl (fun X k => ?_)
  generalize hQQ : QM G X nx 0 0 _ = QQ
  have fr0 : ∀ q : Nat, (q < a ∨ a + 3 < q) → h q = h q := fun _ _ => rfl
  refine g_aload_n k rfl dX0_removeItem_0 ?_
  refine g_get k 0 1 (C := RX0) (T := TX0) (N := 5) fl_X0_25 rfl wi_X0 (by decide) rfl ha rfl dX0_removeItem_1 ?_
  refine g_istore_n k (lv2 := [(0, .ref a), (1, vi (i1 : Int)), (2, vi (φ.length : Int))]) (by decide) rfl rfl dX0_removeItem_4 ?_
  refine g_aload_n k rfl dX0_removeItem_5 ?_
  refine g_iconst k dX0_removeItem_6 ?_
  refine g_put k 0 1 (C := RX0) (T := TX0) (N := 5) fl_X0_25 rfl wi_X0 tyX0 tyX0_ok nmX0 (by decide) rfl rfl rfl rfl ha (Nat.le_of_ble_eq_true rfl) (fs2 := [vi (it : Int), vi 0, .ref (a + 1), .ref (a + 2), .ref (a + 3)]) rfl rfl dX0_removeItem_7 (fun h7 eh7 => ?_)
  have ha_ : h7 a = some (ob 0 [vi (it : Int), vi 0, .ref (a + 1), .ref (a + 2), .ref (a + 3)]) := (congrFun eh7 _).trans hup_s
  have hk_ : h7 (a + 1) = some (ai G 28 K) := (congrFun eh7 _).trans ((hup_n (by omega)).trans hk)
  have hf_ : h7 (a + 2) = some (ai G 28 F) := (congrFun eh7 _).trans ((hup_n (by omega)).trans hf)
  have hs_ : h7 (a + 3) = some (ai G 28 S) := (congrFun eh7 _).trans ((hup_n (by omega)).trans hs)
  have fr_ : ∀ q : Nat, (q < a ∨ a + 3 < q) → h7 q = h q := fun q hq => (congrFun eh7 q).trans ((hup_n (by omega)).trans (fr0 q hq))
  refine g_iconst k dX0_removeItem_10 ?_
  refine g_istore_n k (lv2 := [(0, .ref a), (1, vi (i1 : Int)), (2, vi (φ.length : Int)), (3, vi 0)]) (by decide) rfl rfl dX0_removeItem_11 ?_
  have K12 : ∀ (nz : Nat) (v : Nat) (c : Nat) (K2 : Nat → Int) (F2 : Nat → Int) (S2 : Nat → Int) (h12 : Hp) (ha__1 : h12 a = some (ob 0 [vi (it : Int), vi (c : Int), .ref (a + 1), .ref (a + 2), .ref (a + 3)])) (hk__1 : h12 (a + 1) = some (ai G 28 K2)) (hf__1 : h12 (a + 2) = some (ai G 28 F2)) (hs__1 : h12 (a + 3) = some (ai G 28 S2)) (fr__1 : ∀ q : Nat, (q < a ∨ a + 3 < q) → h12 q = h q) (hc : c = (drp i1 (φ.take v)).length) (hv : v ≤ φ.length) (hcv : c ≤ v) (hd : Rows (drp i1 (φ.take v)) K2 F2 S2) (hu : ∀ j, v ≤ j → K2 j = K j ∧ F2 j = F j ∧ S2 j = S j) (hmz : φ.length - v < nz), Go G X 6 QQ 0 0 nx 12 [(0, .ref a), (1, vi (i1 : Int)), (2, vi (φ.length : Int)), (3, vi (v : Int))] [] h12 := by
    intro nz
    induction nz with
    | zero => intro v c K2 F2 S2 h12 ha__1 hk__1 hf__1 hs__1 fr__1 hc hv hcv hd hu hmz; exact absurd hmz (Nat.not_lt_zero _)
    | succ nz ih12 =>
      intro v c K2 F2 S2 h12 ha__1 hk__1 hf__1 hs__1 fr__1 hc hv hcv hd hu hmz
      refine g_iload_n k rfl dX0_removeItem_12 ?_
      refine g_iload_n k rfl dX0_removeItem_13 ?_
      refine g_icmp_ge k (tgt := 91) (by omega) (by omega) dX0_removeItem_14 (by decide) (fun c14 => ?_) (fun c14 => ?_)
      · skip
        refine g_aload_n k rfl dX0_removeItem_91 ?_
        refine g_dup k rfl dX0_removeItem_92 ?_
        refine g_get k 0 0 (C := RX0) (T := TX0) (N := 5) fl_X0_21 rfl wi_X0 (by decide) rfl ha__1 rfl dX0_removeItem_93 ?_
        refine g_iconst k dX0_removeItem_96 ?_
        refine g_isub k dX0_removeItem_97 ?_
        refine g_put k 0 0 (C := RX0) (T := TX0) (N := 5) fl_X0_21 rfl wi_X0 tyX0 tyX0_ok nmX0 (by decide) rfl rfl rfl rfl ha__1 (Nat.le_of_ble_eq_true rfl) (fs2 := [vi ((it : Int) - 1), vi (c : Int), .ref (a + 1), .ref (a + 2), .ref (a + 3)]) rfl rfl dX0_removeItem_98 (fun h98 eh98 => ?_)
        have ha__2 : h98 a = some (ob 0 [vi ((it : Int) - 1), vi (c : Int), .ref (a + 1), .ref (a + 2), .ref (a + 3)]) := (congrFun eh98 _).trans hup_s
        have hk__2 : h98 (a + 1) = some (ai G 28 K2) := (congrFun eh98 _).trans ((hup_n (by omega)).trans hk__1)
        have hf__2 : h98 (a + 2) = some (ai G 28 F2) := (congrFun eh98 _).trans ((hup_n (by omega)).trans hf__1)
        have hs__2 : h98 (a + 3) = some (ai G 28 S2) := (congrFun eh98 _).trans ((hup_n (by omega)).trans hs__1)
        have fr__2 : ∀ q : Nat, (q < a ∨ a + 3 < q) → h98 q = h q := fun q hq => (congrFun eh98 q).trans ((hup_n (by omega)).trans (fr__1 q hq))
        rw [← hQQ]
        refine g_retv k rfl dX0_removeItem_101 ?_
        have e : v = φ.length := by omega
        subst e
        rw [List.take_length] at hc hd
        refine ⟨⟨K2, F2, S2, ?_, hk__2, hf__2, hs__2, hd⟩, fr__2⟩
        rw [← hc, show ((it - 1 : Nat) : Int) = (it : Int) - 1 by omega]
        exact ha__2
      · skip
        have hb := hsm v (by omega)
        refine g_aload_n k rfl dX0_removeItem_17 ?_
        refine g_get k 0 3 (C := RX0) (T := TX0) (N := 5) fl_X0_15 rfl wi_X0 (by decide) rfl ha__1 rfl dX0_removeItem_18 ?_
        refine g_iload_n k rfl dX0_removeItem_21 ?_
        refine g_iald k v hf__1 (by omega) (by omega) (by decide) dX0_removeItem_22 ?_
        rw [show F2 v = (fi φ v : Int) from ((hu v (Nat.le_refl v)).2.1.trans (hr.f (by omega)))]
        refine g_istore k (lv2 := [(0, .ref a), (1, vi (i1 : Int)), (2, vi (φ.length : Int)), (3, vi (v : Int)), (4, vi (fi φ v : Int))]) (by decide) rfl rfl dX0_removeItem_23 ?_
        refine g_aload_n k rfl dX0_removeItem_25 ?_
        refine g_get k 0 4 (C := RX0) (T := TX0) (N := 5) fl_X0_18 rfl wi_X0 (by decide) rfl ha__1 rfl dX0_removeItem_26 ?_
        refine g_iload_n k rfl dX0_removeItem_29 ?_
        refine g_iald k v hs__1 (by omega) (by omega) (by decide) dX0_removeItem_30 ?_
        rw [show S2 v = (se φ v : Int) from ((hu v (Nat.le_refl v)).2.2.trans (hr.s (by omega)))]
        refine g_istore k (lv2 := [(0, .ref a), (1, vi (i1 : Int)), (2, vi (φ.length : Int)), (3, vi (v : Int)), (4, vi (fi φ v : Int)), (5, vi (se φ v : Int))]) (by decide) rfl rfl dX0_removeItem_31 ?_
        refine g_iload k rfl dX0_removeItem_33 ?_
        refine g_iload_n k rfl dX0_removeItem_35 ?_
        refine g_icmp_eq k (tgt := 85) (by omega) (by omega) dX0_removeItem_36 (by decide) (fun c36 => ?_) (fun c36 => ?_)
        · skip
          refine g_iinc k (lv2 := [(0, .ref a), (1, vi (i1 : Int)), (2, vi (φ.length : Int)), (3, vi ((v : Int) + 1)), (4, vi (fi φ v : Int)), (5, vi (se φ v : Int))]) rfl (by decide) rfl rfl dX0_removeItem_85 ?_
          refine g_goto k (tgt := 12) dX0_removeItem_88 (by decide) ?_
          refine g_less (lv2 := [(0, .ref a), (1, vi (i1 : Int)), (2, vi (φ.length : Int)), (3, vi ((v : Int) + 1))]) ⟨rfl, rfl, rfl, rfl, trivial⟩ ?_
          have e1 : drp i1 (φ.take (v + 1)) = drp i1 (φ.take v) := by
            rw [take_s (by omega), drp_app]
            simp only [drp]
            rw [if_pos (by omega), List.append_nil]
          have hc1 : c = (drp i1 (φ.take (v + 1))).length := by rw [e1]; exact hc
          have hd1 : Rows (drp i1 (φ.take (v + 1))) K2 F2 S2 := by rw [e1]; exact hd
          exact ih12 (v + 1) c K2 F2 S2 h12 ha__1 hk__1 hf__1 hs__1 fr__1 hc1 (by omega) (by omega) hd1 (fun j hj => hu j (by omega)) (by omega)
        · skip
          refine g_iload k rfl dX0_removeItem_39 ?_
          refine g_iload_n k rfl dX0_removeItem_41 ?_
          refine g_icmp_eq k (tgt := 85) (by omega) (by omega) dX0_removeItem_42 (by decide) (fun c42 => ?_) (fun c42 => ?_)
          · skip
            refine g_iinc k (lv2 := [(0, .ref a), (1, vi (i1 : Int)), (2, vi (φ.length : Int)), (3, vi ((v : Int) + 1)), (4, vi (fi φ v : Int)), (5, vi (se φ v : Int))]) rfl (by decide) rfl rfl dX0_removeItem_85 ?_
            refine g_goto k (tgt := 12) dX0_removeItem_88 (by decide) ?_
            refine g_less (lv2 := [(0, .ref a), (1, vi (i1 : Int)), (2, vi (φ.length : Int)), (3, vi ((v : Int) + 1))]) ⟨rfl, rfl, rfl, rfl, trivial⟩ ?_
            have e1 : drp i1 (φ.take (v + 1)) = drp i1 (φ.take v) := by
              rw [take_s (by omega), drp_app]
              simp only [drp]
              rw [if_pos (by omega), List.append_nil]
            have hc1 : c = (drp i1 (φ.take (v + 1))).length := by rw [e1]; exact hc
            have hd1 : Rows (drp i1 (φ.take (v + 1))) K2 F2 S2 := by rw [e1]; exact hd
            exact ih12 (v + 1) c K2 F2 S2 h12 ha__1 hk__1 hf__1 hs__1 fr__1 hc1 (by omega) (by omega) hd1 (fun j hj => hu j (by omega)) (by omega)
          · skip
            refine g_aload_n k rfl dX0_removeItem_45 ?_
            refine g_aload_n k rfl dX0_removeItem_46 ?_
            refine g_get k 0 2 (C := RX0) (T := TX0) (N := 5) fl_X0_9 rfl wi_X0 (by decide) rfl ha__1 rfl dX0_removeItem_47 ?_
            refine g_iload_n k rfl dX0_removeItem_50 ?_
            refine g_iald k v hk__1 (by omega) (by omega) (by decide) dX0_removeItem_51 ?_
            rw [show K2 v = (kd φ v : Int) from ((hu v (Nat.le_refl v)).1.trans (hr.t (by omega)))]
            have K67 : ∀ (x : Int) (hx : x = (dI i1 (fi φ v) : Nat)), Go G X 6 QQ 0 0 nx 67 [(0, .ref a), (1, vi (i1 : Int)), (2, vi (φ.length : Int)), (3, vi (v : Int)), (4, vi (fi φ v : Int)), (5, vi (se φ v : Int))] [vi x, vi (kd φ v : Int), .ref a] h12 := by
              intro x hx
              have K82 : ∀ (y : Int) (hy : y = (dI i1 (se φ v) : Nat)), Go G X 6 QQ 0 0 nx 82 [(0, .ref a), (1, vi (i1 : Int)), (2, vi (φ.length : Int)), (3, vi (v : Int)), (4, vi (fi φ v : Int)), (5, vi (se φ v : Int))] [vi y, vi x, vi (kd φ v : Int), .ref a] h12 := by
                intro y hy
                refine g_cVv k 0 (As := [vi (kd φ v : Int), vi x, vi y]) v_X0_add rfl rfl ha__1 ml_X0_38 (c_X0_add ⟨ha__1, hk__1, hf__1, hs__1⟩ (by omega)) (by omega) (by omega) rfl (Nat.le_of_ble_eq_true rfl) rfl dX0_removeItem_82 (fun h82 p82 => ?_)
                obtain ⟨⟨na, nk, nf, ns⟩, nfr⟩ := p82
                have ha__3 : h82 a = some (ob 0 [vi (it : Int), vi ((c + 1 : Nat) : Int), .ref (a + 1), .ref (a + 2), .ref (a + 3)]) := na
                have hk__3 : h82 (a + 1) = some (ai G 28 (fu K2 c (kd φ v))) := nk
                have hf__3 : h82 (a + 2) = some (ai G 28 (fu F2 c x)) := nf
                have hs__3 : h82 (a + 3) = some (ai G 28 (fu S2 c y)) := ns
                have fr__3 : ∀ q : Nat, (q < a ∨ a + 3 < q) → h82 q = h q := fun q hq => (nfr q (by omega)).trans (fr__1 q hq)
                refine g_iinc k (lv2 := [(0, .ref a), (1, vi (i1 : Int)), (2, vi (φ.length : Int)), (3, vi ((v : Int) + 1)), (4, vi (fi φ v : Int)), (5, vi (se φ v : Int))]) rfl (by decide) rfl rfl dX0_removeItem_85 ?_
                refine g_goto k (tgt := 12) dX0_removeItem_88 (by decide) ?_
                refine g_less (lv2 := [(0, .ref a), (1, vi (i1 : Int)), (2, vi (φ.length : Int)), (3, vi ((v : Int) + 1))]) ⟨rfl, rfl, rfl, rfl, trivial⟩ ?_
                have e1 : drp i1 (φ.take (v + 1)) = drp i1 (φ.take v) ++ [(kd φ v, dI i1 (fi φ v), dI i1 (se φ v))] := by
                  rw [take_s (by omega), drp_app]
                  simp only [drp]
                  rw [if_neg (by omega)]
                have hc1 : c + 1 = (drp i1 (φ.take (v + 1))).length := by rw [e1, List.length_append, List.length_singleton, hc]
                have hd1 : Rows (drp i1 (φ.take (v + 1))) (fu K2 c (kd φ v)) (fu F2 c x) (fu S2 c y) := by rw [e1, hc, hx, hy]; exact hd.add
                exact ih12 (v + 1) (c + 1) (fu K2 c (kd φ v)) (fu F2 c x) (fu S2 c y) h82 ha__3 hk__3 hf__3 hs__3 fr__3 hc1 (by omega) (by omega) hd1 (fun j hj => by rw [fu_n (by omega), fu_n (by omega), fu_n (by omega)]; exact hu j (by omega)) (by omega)
              refine g_iload k rfl dX0_removeItem_67 ?_
              refine g_iload_n k rfl dX0_removeItem_69 ?_
              refine g_icmp_le k (tgt := 80) (by omega) (by omega) dX0_removeItem_70 (by decide) (fun c70 => ?_) (fun c70 => ?_)
              · skip
                refine g_iload k rfl dX0_removeItem_80 ?_
                exact K82 _ (by unfold dI; split <;> omega)
              · skip
                refine g_iload k rfl dX0_removeItem_73 ?_
                refine g_iconst k dX0_removeItem_75 ?_
                refine g_isub k dX0_removeItem_76 ?_
                refine g_goto k (tgt := 82) dX0_removeItem_77 (by decide) ?_
                exact K82 _ (by unfold dI; split <;> omega)
            refine g_iload k rfl dX0_removeItem_52 ?_
            refine g_iload_n k rfl dX0_removeItem_54 ?_
            refine g_icmp_le k (tgt := 65) (by omega) (by omega) dX0_removeItem_55 (by decide) (fun c55 => ?_) (fun c55 => ?_)
            · skip
              refine g_iload k rfl dX0_removeItem_65 ?_
              exact K67 _ (by unfold dI; split <;> omega)
            · skip
              refine g_iload k rfl dX0_removeItem_58 ?_
              refine g_iconst k dX0_removeItem_60 ?_
              refine g_isub k dX0_removeItem_61 ?_
              refine g_goto k (tgt := 67) dX0_removeItem_62 (by decide) ?_
              exact K67 _ (by unfold dI; split <;> omega)
  exact K12 _ 0 0 K F S h7 ha_ hk_ hf_ hs_ fr_ rfl (Nat.zero_le _) (Nat.le_refl _) Rows.nil (fun j _ => ⟨rfl, rfl, rfl⟩) (Nat.lt_succ_self _)

/-- each BEFORE turned; how many there are -/
def trn (φ : Fs) : Fs := φ.map fun q => if q.1 = 0 then (q.1, q.2.2, q.2.1) else q
def nbF (φ : Fs) : Nat → Nat
  | 0 => 0
  | n + 1 => if kd φ n = 0 then nbF φ n + 1 else nbF φ n
theorem nbF_le (φ : Fs) : ∀ n : Nat, nbF φ n ≤ n
  | 0 => Nat.le_refl 0
  | n + 1 => by have := nbF_le φ n; unfold nbF; split <;> omega
theorem trn_at {φ : Fs} {k : Nat} (h : k < φ.length) : kd (trn φ) k = kd φ k ∧ fi (trn φ) k = (if kd φ k = 0 then se φ k else fi φ k) ∧ se (trn φ) k = (if kd φ k = 0 then fi φ k else se φ k) := by
  simp only [kd, fi, se, trn, List.getD_eq_getElem?_getD, List.getElem?_map, List.getElem?_eq_getElem h, Option.map_some, Option.getD_some]
  by_cases e : (φ[k]).1 = 0
  · simp [e]
  · simp [e]
def fcp (f g : Nat → Int) (n : Nat) : Nat → Int := va_cpy f g 0 0 n
theorem fcp_at {f g : Nat → Int} {n k : Nat} (h : k < n) : va_cpy f g 0 0 n k = f k := by rw [pk_cpy_in (Nat.zero_le k) (by omega)]; congr 1; omega
set_option maxHeartbeats 600000 in
set_option maxRecDepth 100000 in
theorem c_X0_turnBefores {G : Gx} {h : Hp} {nx a it : Nat} {φ : Fs} (hF : FA G h a it φ) (hS : Sm it φ) : Con G yX0_turnBefores cX0_turnBefores 4 (some .int) 1 0 0 [.ref a] h nx (PI fun z h' => z = (nbF φ φ.length : Nat) ∧ FA G h' a it (trn φ) ∧ ∀ q : Nat, (q < a ∨ a + 3 < q) → h' q = h q) := by
  obtain ⟨K, F, S, ha, hk, hf, hs, hr⟩ := hF
  obtain ⟨h8, h28, hsm⟩ := hS
  refine Con.of v_X0_turnBefores.2.2.2.2.2.1 (Nat.le_of_ble_eq_true rfl) (lv := [(0, .ref a)]) rfl (fun X k => ?_)
  generalize hQQ : QM G X nx 0 0 _ = QQ
  have fr0 : ∀ q : Nat, (q < a ∨ a + 3 < q) → h q = h q := fun _ _ => rfl
  refine g_iconst k dX0_turnBefores_0 ?_
  refine g_istore_n k (lv2 := [(0, .ref a), (1, vi 0)]) (by decide) rfl rfl dX0_turnBefores_1 ?_
  refine g_iconst k dX0_turnBefores_2 ?_
  refine g_istore_n k (lv2 := [(0, .ref a), (1, vi 0), (2, vi 0)]) (by decide) rfl rfl dX0_turnBefores_3 ?_
  have K4 : ∀ (nz : Nat) (v : Nat) (F2 : Nat → Int) (S2 : Nat → Int) (h4 : Hp) (ha_ : h4 a = some (ob 0 [vi (it : Int), vi (φ.length : Int), .ref (a + 1), .ref (a + 2), .ref (a + 3)])) (hk_ : h4 (a + 1) = some (ai G 28 K)) (hf_ : h4 (a + 2) = some (ai G 28 F2)) (hs_ : h4 (a + 3) = some (ai G 28 S2)) (fr_ : ∀ q : Nat, (q < a ∨ a + 3 < q) → h4 q = h q) (hv : v ≤ φ.length) (hd : ∀ j, j < φ.length → F2 j = (if j < v ∧ kd φ j = 0 then (se φ j : Int) else (fi φ j : Int)) ∧ S2 j = (if j < v ∧ kd φ j = 0 then (fi φ j : Int) else (se φ j : Int))) (hmz : φ.length - v < nz), Go G X 4 QQ 0 0 nx 4 [(0, .ref a), (1, vi (nbF φ v : Int)), (2, vi (v : Int))] [] h4 := by
    intro nz
    induction nz with
    | zero => intro v F2 S2 h4 ha_ hk_ hf_ hs_ fr_ hv hd hmz; exact absurd hmz (Nat.not_lt_zero _)
    | succ nz ih4 =>
      intro v F2 S2 h4 ha_ hk_ hf_ hs_ fr_ hv hd hmz
      refine g_iload_n k rfl dX0_turnBefores_4 ?_
      refine g_aload_n k rfl dX0_turnBefores_5 ?_
      refine g_get k 0 1 (C := RX0) (T := TX0) (N := 5) fl_X0_25 rfl wi_X0 (by decide) rfl ha_ rfl dX0_turnBefores_6 ?_
      refine g_icmp_ge k (tgt := 56) (by omega) (by omega) dX0_turnBefores_9 (by decide) (fun c9 => ?_) (fun c9 => ?_)
      · skip
        refine g_iload_n k rfl dX0_turnBefores_56 ?_
        rw [← hQQ]
        refine g_ireti k rfl dX0_turnBefores_57 ?_
        have e : v = φ.length := by omega
        subst e
        refine ⟨rfl, ⟨K, F2, S2, ?_, hk_, hf_, hs_, ?_⟩, fr_⟩
        · rw [show (trn φ).length = φ.length by simp [trn]]; exact ha_
        · intro j hj
          rw [show (trn φ).length = φ.length by simp [trn]] at hj
          have q := hd j hj
          have t := trn_at hj
          rw [t.1, t.2.1, t.2.2, q.1, q.2, hr.t hj]
          refine ⟨rfl, ?_, ?_⟩ <;> (split <;> split <;> first | rfl | omega)
      · skip
        have hb := hsm v (by omega)
        refine g_aload_n k rfl dX0_turnBefores_12 ?_
        refine g_get k 0 2 (C := RX0) (T := TX0) (N := 5) fl_X0_9 rfl wi_X0 (by decide) rfl ha_ rfl dX0_turnBefores_13 ?_
        refine g_iload_n k rfl dX0_turnBefores_16 ?_
        refine g_iald k v hk_ (by omega) (by omega) (by decide) dX0_turnBefores_17 ?_
        rw [show K v = (kd φ v : Int) from hr.t (by omega)]
        refine g_if_ne k (tgt := 50) (by omega) dX0_turnBefores_18 (by decide) (fun c18 => ?_) (fun c18 => ?_)
        · skip
          refine g_iinc k (lv2 := [(0, .ref a), (1, vi (nbF φ v : Int)), (2, vi ((v : Int) + 1))]) rfl (by decide) rfl rfl dX0_turnBefores_50 ?_
          refine g_goto k (tgt := 4) dX0_turnBefores_53 (by decide) ?_
          rw [show (nbF φ v : Int) = (nbF φ (v + 1) : Nat) by rw [show nbF φ (v + 1) = nbF φ v by rw [nbF, if_neg (by omega)]]]
          exact ih4 (v + 1) F2 S2 h4 ha_ hk_ hf_ hs_ fr_ (by omega) (fun j hj => by have q := hd j hj; rw [q.1, q.2]; by_cases e : j = v; (subst e; simp [show ¬ kd φ j = 0 by omega]); simp [show (j < v + 1) = (j < v) from propext (by omega)]) (by omega)
        · skip
          refine g_aload_n k rfl dX0_turnBefores_21 ?_
          refine g_get k 0 3 (C := RX0) (T := TX0) (N := 5) fl_X0_15 rfl wi_X0 (by decide) rfl ha_ rfl dX0_turnBefores_22 ?_
          refine g_iload_n k rfl dX0_turnBefores_25 ?_
          refine g_iald k v hf_ (by omega) (by omega) (by decide) dX0_turnBefores_26 ?_
          refine g_istore_n k (lv2 := [(0, .ref a), (1, vi (nbF φ v : Int)), (2, vi (v : Int)), (3, vi (F2 v))]) (by decide) rfl rfl dX0_turnBefores_27 ?_
          refine g_aload_n k rfl dX0_turnBefores_28 ?_
          refine g_get k 0 3 (C := RX0) (T := TX0) (N := 5) fl_X0_15 rfl wi_X0 (by decide) rfl ha_ rfl dX0_turnBefores_29 ?_
          refine g_iload_n k rfl dX0_turnBefores_32 ?_
          refine g_aload_n k rfl dX0_turnBefores_33 ?_
          refine g_get k 0 4 (C := RX0) (T := TX0) (N := 5) fl_X0_18 rfl wi_X0 (by decide) rfl ha_ rfl dX0_turnBefores_34 ?_
          refine g_iload_n k rfl dX0_turnBefores_37 ?_
          refine g_iald k v hs_ (by omega) (by omega) (by decide) dX0_turnBefores_38 ?_
          refine g_iast k v hf_ (by omega) (by omega) (by decide) dX0_turnBefores_39 (fun h39 eh39 => ?_)
          have ha__1 : h39 a = some (ob 0 [vi (it : Int), vi (φ.length : Int), .ref (a + 1), .ref (a + 2), .ref (a + 3)]) := (congrFun eh39 _).trans ((hup_n (by omega)).trans ha_)
          have hk__1 : h39 (a + 1) = some (ai G 28 K) := (congrFun eh39 _).trans ((hup_n (by omega)).trans hk_)
          have hf__1 : h39 (a + 2) = some (ai G 28 (fu F2 v (S2 v))) := (congrFun eh39 _).trans hup_s
          have hs__1 : h39 (a + 3) = some (ai G 28 S2) := (congrFun eh39 _).trans ((hup_n (by omega)).trans hs_)
          have fr__1 : ∀ q : Nat, (q < a ∨ a + 3 < q) → h39 q = h q := fun q hq => (congrFun eh39 q).trans ((hup_n (by omega)).trans (fr_ q hq))
          refine g_aload_n k rfl dX0_turnBefores_40 ?_
          refine g_get k 0 4 (C := RX0) (T := TX0) (N := 5) fl_X0_18 rfl wi_X0 (by decide) rfl ha__1 rfl dX0_turnBefores_41 ?_
          refine g_iload_n k rfl dX0_turnBefores_44 ?_
          refine g_iload_n k rfl dX0_turnBefores_45 ?_
          refine g_iast k v hs__1 (by omega) (by omega) (by decide) dX0_turnBefores_46 (fun h46 eh46 => ?_)
          have ha__2 : h46 a = some (ob 0 [vi (it : Int), vi (φ.length : Int), .ref (a + 1), .ref (a + 2), .ref (a + 3)]) := (congrFun eh46 _).trans ((hup_n (by omega)).trans ha__1)
          have hk__2 : h46 (a + 1) = some (ai G 28 K) := (congrFun eh46 _).trans ((hup_n (by omega)).trans hk__1)
          have hf__2 : h46 (a + 2) = some (ai G 28 (fu F2 v (S2 v))) := (congrFun eh46 _).trans ((hup_n (by omega)).trans hf__1)
          have hs__2 : h46 (a + 3) = some (ai G 28 (fu S2 v (F2 v))) := (congrFun eh46 _).trans hup_s
          have fr__2 : ∀ q : Nat, (q < a ∨ a + 3 < q) → h46 q = h q := fun q hq => (congrFun eh46 q).trans ((hup_n (by omega)).trans (fr__1 q hq))
          refine g_iinc k (lv2 := [(0, .ref a), (1, vi ((nbF φ v : Int) + 1)), (2, vi (v : Int)), (3, vi (F2 v))]) rfl (by decide) rfl rfl dX0_turnBefores_47 ?_
          refine g_iinc k (lv2 := [(0, .ref a), (1, vi ((nbF φ v : Int) + 1)), (2, vi ((v : Int) + 1)), (3, vi (F2 v))]) rfl (by decide) rfl rfl dX0_turnBefores_50 ?_
          refine g_goto k (tgt := 4) dX0_turnBefores_53 (by decide) ?_
          refine g_less (lv2 := [(0, .ref a), (1, vi ((nbF φ v : Int) + 1)), (2, vi ((v : Int) + 1))]) ⟨rfl, rfl, rfl, trivial⟩ ?_
          rw [show (nbF φ v : Int) + 1 = (nbF φ (v + 1) : Nat) by rw [show nbF φ (v + 1) = nbF φ v + 1 by rw [nbF, if_pos (by omega)]]; rfl]
          exact ih4 (v + 1) (fu F2 v (S2 v)) (fu S2 v (F2 v)) h46 ha__2 hk__2 hf__2 hs__2 fr__2 (by omega) (fun j hj => by by_cases e : j = v; (subst e; rw [fu_s, fu_s, (hd j hj).1, (hd j hj).2]; simp [show kd φ j = 0 by omega]); (rw [fu_n e, fu_n e, (hd j hj).1, (hd j hj).2]; simp [show (j < v + 1) = (j < v) from propext (by omega)])) (by omega)
  exact K4 _ 0 F S h ha hk hf hs fr0 (Nat.zero_le _) (fun j hj => by rw [if_neg (by omega), if_neg (by omega)]; exact ⟨hr.f hj, hr.s hj⟩) (Nat.lt_succ_self _)

set_option maxHeartbeats 600000 in
set_option maxRecDepth 100000 in
theorem c_X0_copyFrom {G : Gx} {h : Hp} {nx a it n b : Nat} {K F S : Nat → Int} (hF : FC G h a it n K F S) {it2 : Nat} {φ : Fs} (hG : FA G h b it2 φ) (h28 : φ.length ≤ 28) (hd : a + 3 < b ∨ b + 3 < a) : Con G yX0_copyFrom cX0_copyFrom 2 none 1 0 0 [.ref a, .ref b] h nx (PV fun h' => FA G h' a it2 φ ∧ ∀ q : Nat, (q < a ∨ a + 3 < q) → h' q = h q) := by
  obtain ⟨ha, hk, hf, hs⟩ := hF
  obtain ⟨K2, F2, S2, hb, hbk, hbf, hbs, hr⟩ := hG
  refine Con.of v_X0_copyFrom.2.2.2.2.2.1 (Nat.le_of_ble_eq_true rfl) (lv := [(0, .ref a), (1, .ref b)]) rfl (fun X k => ?_)
  generalize hQQ : QM G X nx 0 0 _ = QQ
  have fr0 : ∀ q : Nat, (q < a ∨ a + 3 < q) → h q = h q := fun _ _ => rfl
  refine g_aload_n k rfl dX0_copyFrom_0 ?_
  refine g_aload_n k rfl dX0_copyFrom_1 ?_
  refine g_get k 0 0 (C := RX0) (T := TX0) (N := 5) fl_X0_21 rfl wi_X0 (by decide) rfl hb rfl dX0_copyFrom_2 ?_
  refine g_put k 0 0 (C := RX0) (T := TX0) (N := 5) fl_X0_21 rfl wi_X0 tyX0 tyX0_ok nmX0 (by decide) rfl rfl rfl rfl ha (Nat.le_of_ble_eq_true rfl) (fs2 := [vi (it2 : Int), vi (n : Int), .ref (a + 1), .ref (a + 2), .ref (a + 3)]) rfl rfl dX0_copyFrom_5 (fun h5 eh5 => ?_)
  have ha_ : h5 a = some (ob 0 [vi (it2 : Int), vi (n : Int), .ref (a + 1), .ref (a + 2), .ref (a + 3)]) := (congrFun eh5 _).trans hup_s
  have hk_ : h5 (a + 1) = some (ai G 28 K) := (congrFun eh5 _).trans ((hup_n (by omega)).trans hk)
  have hf_ : h5 (a + 2) = some (ai G 28 F) := (congrFun eh5 _).trans ((hup_n (by omega)).trans hf)
  have hs_ : h5 (a + 3) = some (ai G 28 S) := (congrFun eh5 _).trans ((hup_n (by omega)).trans hs)
  have hb_ : h5 b = some (ob 0 [vi (it2 : Int), vi (φ.length : Int), .ref (b + 1), .ref (b + 2), .ref (b + 3)]) := (congrFun eh5 _).trans ((hup_n (by omega)).trans hb)
  have hbk_ : h5 (b + 1) = some (ai G 28 K2) := (congrFun eh5 _).trans ((hup_n (by omega)).trans hbk)
  have hbf_ : h5 (b + 2) = some (ai G 28 F2) := (congrFun eh5 _).trans ((hup_n (by omega)).trans hbf)
  have hbs_ : h5 (b + 3) = some (ai G 28 S2) := (congrFun eh5 _).trans ((hup_n (by omega)).trans hbs)
  have fr_ : ∀ q : Nat, (q < a ∨ a + 3 < q) → h5 q = h q := fun q hq => (congrFun eh5 q).trans ((hup_n (by omega)).trans (fr0 q hq))
  refine g_aload_n k rfl dX0_copyFrom_8 ?_
  refine g_aload_n k rfl dX0_copyFrom_9 ?_
  refine g_get k 0 1 (C := RX0) (T := TX0) (N := 5) fl_X0_25 rfl wi_X0 (by decide) rfl hb_ rfl dX0_copyFrom_10 ?_
  refine g_put k 0 1 (C := RX0) (T := TX0) (N := 5) fl_X0_25 rfl wi_X0 tyX0 tyX0_ok nmX0 (by decide) rfl rfl rfl rfl ha_ (Nat.le_of_ble_eq_true rfl) (fs2 := [vi (it2 : Int), vi (φ.length : Int), .ref (a + 1), .ref (a + 2), .ref (a + 3)]) rfl rfl dX0_copyFrom_13 (fun h13 eh13 => ?_)
  have ha__1 : h13 a = some (ob 0 [vi (it2 : Int), vi (φ.length : Int), .ref (a + 1), .ref (a + 2), .ref (a + 3)]) := (congrFun eh13 _).trans hup_s
  have hk__1 : h13 (a + 1) = some (ai G 28 K) := (congrFun eh13 _).trans ((hup_n (by omega)).trans hk_)
  have hf__1 : h13 (a + 2) = some (ai G 28 F) := (congrFun eh13 _).trans ((hup_n (by omega)).trans hf_)
  have hs__1 : h13 (a + 3) = some (ai G 28 S) := (congrFun eh13 _).trans ((hup_n (by omega)).trans hs_)
  have hb__1 : h13 b = some (ob 0 [vi (it2 : Int), vi (φ.length : Int), .ref (b + 1), .ref (b + 2), .ref (b + 3)]) := (congrFun eh13 _).trans ((hup_n (by omega)).trans hb_)
  have hbk__1 : h13 (b + 1) = some (ai G 28 K2) := (congrFun eh13 _).trans ((hup_n (by omega)).trans hbk_)
  have hbf__1 : h13 (b + 2) = some (ai G 28 F2) := (congrFun eh13 _).trans ((hup_n (by omega)).trans hbf_)
  have hbs__1 : h13 (b + 3) = some (ai G 28 S2) := (congrFun eh13 _).trans ((hup_n (by omega)).trans hbs_)
  have fr__1 : ∀ q : Nat, (q < a ∨ a + 3 < q) → h13 q = h q := fun q hq => (congrFun eh13 q).trans ((hup_n (by omega)).trans (fr_ q hq))
  refine g_aload_n k rfl dX0_copyFrom_16 ?_
  refine g_get k 0 2 (C := RX0) (T := TX0) (N := 5) fl_X0_9 rfl wi_X0 (by decide) rfl hb__1 rfl dX0_copyFrom_17 ?_
  refine g_iconst k dX0_copyFrom_20 ?_
  refine g_aload_n k rfl dX0_copyFrom_21 ?_
  refine g_get k 0 2 (C := RX0) (T := TX0) (N := 5) fl_X0_9 rfl wi_X0 (by decide) rfl ha__1 rfl dX0_copyFrom_22 ?_
  refine g_iconst k dX0_copyFrom_25 ?_
  refine g_aload_n k rfl dX0_copyFrom_26 ?_
  refine g_get k 0 1 (C := RX0) (T := TX0) (N := 5) fl_X0_25 rfl wi_X0 (by decide) rfl ha__1 rfl dX0_copyFrom_27 ?_
  refine g_copy k ml_X0_28 ini_J10 hbk__1 hk__1 (by omega) (by omega) (by omega) (by omega) (by omega) (by decide) (by decide) (by omega) (Nat.le_of_ble_eq_true rfl) dX0_copyFrom_30 (fun h30 eh30 => ?_)
  have ha__2 : h30 a = some (ob 0 [vi (it2 : Int), vi (φ.length : Int), .ref (a + 1), .ref (a + 2), .ref (a + 3)]) := (congrFun eh30 _).trans ((hup_n (by omega)).trans ha__1)
  have hk__2 : h30 (a + 1) = some (ai G 28 (va_cpy K2 K (0 : Int).toNat (0 : Int).toNat ((φ.length : Int)).toNat)) := (congrFun eh30 _).trans hup_s
  have hf__2 : h30 (a + 2) = some (ai G 28 F) := (congrFun eh30 _).trans ((hup_n (by omega)).trans hf__1)
  have hs__2 : h30 (a + 3) = some (ai G 28 S) := (congrFun eh30 _).trans ((hup_n (by omega)).trans hs__1)
  have hb__2 : h30 b = some (ob 0 [vi (it2 : Int), vi (φ.length : Int), .ref (b + 1), .ref (b + 2), .ref (b + 3)]) := (congrFun eh30 _).trans ((hup_n (by omega)).trans hb__1)
  have hbk__2 : h30 (b + 1) = some (ai G 28 K2) := (congrFun eh30 _).trans ((hup_n (by omega)).trans hbk__1)
  have hbf__2 : h30 (b + 2) = some (ai G 28 F2) := (congrFun eh30 _).trans ((hup_n (by omega)).trans hbf__1)
  have hbs__2 : h30 (b + 3) = some (ai G 28 S2) := (congrFun eh30 _).trans ((hup_n (by omega)).trans hbs__1)
  have fr__2 : ∀ q : Nat, (q < a ∨ a + 3 < q) → h30 q = h q := fun q hq => (congrFun eh30 q).trans ((hup_n (by omega)).trans (fr__1 q hq))
  refine g_aload_n k rfl dX0_copyFrom_33 ?_
  refine g_get k 0 3 (C := RX0) (T := TX0) (N := 5) fl_X0_15 rfl wi_X0 (by decide) rfl hb__2 rfl dX0_copyFrom_34 ?_
  refine g_iconst k dX0_copyFrom_37 ?_
  refine g_aload_n k rfl dX0_copyFrom_38 ?_
  refine g_get k 0 3 (C := RX0) (T := TX0) (N := 5) fl_X0_15 rfl wi_X0 (by decide) rfl ha__2 rfl dX0_copyFrom_39 ?_
  refine g_iconst k dX0_copyFrom_42 ?_
  refine g_aload_n k rfl dX0_copyFrom_43 ?_
  refine g_get k 0 1 (C := RX0) (T := TX0) (N := 5) fl_X0_25 rfl wi_X0 (by decide) rfl ha__2 rfl dX0_copyFrom_44 ?_
  refine g_copy k ml_X0_28 ini_J10 hbf__2 hf__2 (by omega) (by omega) (by omega) (by omega) (by omega) (by decide) (by decide) (by omega) (Nat.le_of_ble_eq_true rfl) dX0_copyFrom_47 (fun h47 eh47 => ?_)
  have ha__3 : h47 a = some (ob 0 [vi (it2 : Int), vi (φ.length : Int), .ref (a + 1), .ref (a + 2), .ref (a + 3)]) := (congrFun eh47 _).trans ((hup_n (by omega)).trans ha__2)
  have hk__3 : h47 (a + 1) = some (ai G 28 (va_cpy K2 K (0 : Int).toNat (0 : Int).toNat ((φ.length : Int)).toNat)) := (congrFun eh47 _).trans ((hup_n (by omega)).trans hk__2)
  have hf__3 : h47 (a + 2) = some (ai G 28 (va_cpy F2 F (0 : Int).toNat (0 : Int).toNat ((φ.length : Int)).toNat)) := (congrFun eh47 _).trans hup_s
  have hs__3 : h47 (a + 3) = some (ai G 28 S) := (congrFun eh47 _).trans ((hup_n (by omega)).trans hs__2)
  have hb__3 : h47 b = some (ob 0 [vi (it2 : Int), vi (φ.length : Int), .ref (b + 1), .ref (b + 2), .ref (b + 3)]) := (congrFun eh47 _).trans ((hup_n (by omega)).trans hb__2)
  have hbk__3 : h47 (b + 1) = some (ai G 28 K2) := (congrFun eh47 _).trans ((hup_n (by omega)).trans hbk__2)
  have hbf__3 : h47 (b + 2) = some (ai G 28 F2) := (congrFun eh47 _).trans ((hup_n (by omega)).trans hbf__2)
  have hbs__3 : h47 (b + 3) = some (ai G 28 S2) := (congrFun eh47 _).trans ((hup_n (by omega)).trans hbs__2)
  have fr__3 : ∀ q : Nat, (q < a ∨ a + 3 < q) → h47 q = h q := fun q hq => (congrFun eh47 q).trans ((hup_n (by omega)).trans (fr__2 q hq))
  refine g_aload_n k rfl dX0_copyFrom_50 ?_
  refine g_get k 0 4 (C := RX0) (T := TX0) (N := 5) fl_X0_18 rfl wi_X0 (by decide) rfl hb__3 rfl dX0_copyFrom_51 ?_
  refine g_iconst k dX0_copyFrom_54 ?_
  refine g_aload_n k rfl dX0_copyFrom_55 ?_
  refine g_get k 0 4 (C := RX0) (T := TX0) (N := 5) fl_X0_18 rfl wi_X0 (by decide) rfl ha__3 rfl dX0_copyFrom_56 ?_
  refine g_iconst k dX0_copyFrom_59 ?_
  refine g_aload_n k rfl dX0_copyFrom_60 ?_
  refine g_get k 0 1 (C := RX0) (T := TX0) (N := 5) fl_X0_25 rfl wi_X0 (by decide) rfl ha__3 rfl dX0_copyFrom_61 ?_
  refine g_copy k ml_X0_28 ini_J10 hbs__3 hs__3 (by omega) (by omega) (by omega) (by omega) (by omega) (by decide) (by decide) (by omega) (Nat.le_of_ble_eq_true rfl) dX0_copyFrom_64 (fun h64 eh64 => ?_)
  have ha__4 : h64 a = some (ob 0 [vi (it2 : Int), vi (φ.length : Int), .ref (a + 1), .ref (a + 2), .ref (a + 3)]) := (congrFun eh64 _).trans ((hup_n (by omega)).trans ha__3)
  have hk__4 : h64 (a + 1) = some (ai G 28 (va_cpy K2 K (0 : Int).toNat (0 : Int).toNat ((φ.length : Int)).toNat)) := (congrFun eh64 _).trans ((hup_n (by omega)).trans hk__3)
  have hf__4 : h64 (a + 2) = some (ai G 28 (va_cpy F2 F (0 : Int).toNat (0 : Int).toNat ((φ.length : Int)).toNat)) := (congrFun eh64 _).trans ((hup_n (by omega)).trans hf__3)
  have hs__4 : h64 (a + 3) = some (ai G 28 (va_cpy S2 S (0 : Int).toNat (0 : Int).toNat ((φ.length : Int)).toNat)) := (congrFun eh64 _).trans hup_s
  have hb__4 : h64 b = some (ob 0 [vi (it2 : Int), vi (φ.length : Int), .ref (b + 1), .ref (b + 2), .ref (b + 3)]) := (congrFun eh64 _).trans ((hup_n (by omega)).trans hb__3)
  have hbk__4 : h64 (b + 1) = some (ai G 28 K2) := (congrFun eh64 _).trans ((hup_n (by omega)).trans hbk__3)
  have hbf__4 : h64 (b + 2) = some (ai G 28 F2) := (congrFun eh64 _).trans ((hup_n (by omega)).trans hbf__3)
  have hbs__4 : h64 (b + 3) = some (ai G 28 S2) := (congrFun eh64 _).trans ((hup_n (by omega)).trans hbs__3)
  have fr__4 : ∀ q : Nat, (q < a ∨ a + 3 < q) → h64 q = h q := fun q hq => (congrFun eh64 q).trans ((hup_n (by omega)).trans (fr__3 q hq))
  rw [← hQQ]
  refine g_retv k rfl dX0_copyFrom_67 ?_
  refine ⟨⟨_, _, _, ha__4, hk__4, hf__4, hs__4, fun j hj => ?_⟩, fr__4⟩
  have e : ((φ.length : Int)).toNat = φ.length := Int.toNat_natCast _
  simp only [e, Int.toNat_zero]
  rw [fcp_at hj, fcp_at hj, fcp_at hj]
  exact hr j hj

