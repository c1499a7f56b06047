/-! the reference: yields -/
theorem pc_p {i : Nat} (h : i < 30) : pcH 30 (2 ^ i) = 1 := by
  have := pcH_add i 30 0 (Nat.pow_pos (by decide)) h
  rw [Nat.zero_add, pcH_0] at this
  exact this
theorem or2 {i j : Nat} (h : i < j) : 2 ^ j ||| 2 ^ i = 2 ^ i + 2 ^ j := by
  rw [Nat.or_comm, or_pow (Nat.pow_lt_pow_right (by decide) h)]
theorem or3 {i j m : Nat} (h : i < j) (h2 : j < m) : 2 ^ m ||| 2 ^ j ||| 2 ^ i = (2 ^ i + 2 ^ j) + 2 ^ m := by
  have h3 : 2 ^ j ||| 2 ^ i < 2 ^ m := Nat.or_lt_two_pow (Nat.pow_lt_pow_right (by decide) h2) (Nat.pow_lt_pow_right (by decide) (by omega))
  rw [Nat.or_assoc, Nat.or_comm, or_pow h3, or2 h]
theorem p2_lt {i j : Nat} (h : i < j) : 2 ^ i + 2 ^ j < 2 ^ (j + 1) := by
  have := Nat.pow_lt_pow_right (a := 2) (by decide) h
  rw [Nat.pow_succ]
  omega
theorem p3_lt {i j m : Nat} (h : i < j) (h2 : j < m) : (2 ^ i + 2 ^ j) + 2 ^ m < 2 ^ (m + 1) := by
  have h1 := p2_lt h
  have h3 : 2 ^ (j + 1) ≤ 2 ^ m := Nat.pow_le_pow_right (by decide) h2
  rw [Nat.pow_succ]
  omega
theorem pc_2 {i j : Nat} (h : i < j) (hj : j < 30) : pcH 30 (2 ^ j ||| 2 ^ i) = 2 := by
  rw [or2 h, pcH_add j 30 _ (Nat.pow_lt_pow_right (by decide) h) hj, pc_p (by omega)]
theorem pc_3 {i j m : Nat} (h : i < j) (h2 : j < m) (hm : m < 30) : pcH 30 (2 ^ m ||| 2 ^ j ||| 2 ^ i) = 3 := by
  have h3 : 2 ^ (j + 1) ≤ 2 ^ m := Nat.pow_le_pow_right (by decide) h2
  have := p2_lt h
  rw [or3 h h2, pcH_add m 30 _ (by omega) hm, ← or2 h, pc_2 h (by omega)]
theorem p_lt {S j l : Nat} (h1 : 2 ^ j ≤ S) (h2 : S < 2 ^ l) : j < l := by
  refine Nat.not_le.mp (fun q => ?_)
  have : 2 ^ l ≤ 2 ^ j := Nat.pow_le_pow_right (by decide) q
  omega
theorem y1 {S l : Nat} (hl : l ≤ 28) (hS : S < 2 ^ l) (h : pcH 30 S = 1) : ∃ j, j < l ∧ S = 2 ^ j := by
  have h30 : S < 2 ^ 30 := Nat.lt_of_lt_of_le hS (Nat.pow_le_pow_right (by decide) (by omega))
  obtain ⟨j, T, e1, e2, e3⟩ := pc_top h30 h
  have := pc_0 (Nat.lt_of_le_of_lt (by omega) h30) e3
  subst this
  exact ⟨j, p_lt (S := S) (by omega) hS, by omega⟩
theorem y2 {S l : Nat} (hl : l ≤ 28) (hS : S < 2 ^ l) (h : pcH 30 S = 2) : ∃ j i, i < j ∧ j < l ∧ S = 2 ^ j ||| 2 ^ i := by
  have h30 : S < 2 ^ 30 := Nat.lt_of_lt_of_le hS (Nat.pow_le_pow_right (by decide) (by omega))
  obtain ⟨j, T, e1, e2, e3⟩ := pc_top h30 h
  obtain ⟨i, i1, i2⟩ := y1 (l := l) hl (by omega) e3
  subst i2
  have hij : i < j := (Nat.pow_lt_pow_iff_right (by decide)).mp e2
  have hpi : 0 < 2 ^ i := Nat.pow_pos (by decide)
  exact ⟨j, i, hij, p_lt (S := S) (by omega) hS, by rw [or2 hij]; exact e1⟩
theorem y3 {S l : Nat} (hl : l ≤ 28) (hS : S < 2 ^ l) (h : pcH 30 S = 3) : ∃ m j i, i < j ∧ j < m ∧ m < l ∧ S = 2 ^ m ||| 2 ^ j ||| 2 ^ i := by
  have h30 : S < 2 ^ 30 := Nat.lt_of_lt_of_le hS (Nat.pow_le_pow_right (by decide) (by omega))
  obtain ⟨m, T, e1, e2, e3⟩ := pc_top h30 h
  obtain ⟨j, i, i1, i2, i3⟩ := y2 (l := l) hl (by omega) e3
  have hjm : j < m := by
    have : 2 ^ j < 2 ^ m := by rw [i3, or2 i1] at e2; have : 0 < 2 ^ i := Nat.pow_pos (by decide); omega
    exact (Nat.pow_lt_pow_iff_right (by decide)).mp this
  exact ⟨m, j, i, i1, hjm, p_lt (S := S) (by omega) hS, by rw [or3 i1 hjm, ← or2 i1, ← i3]; exact e1⟩
section YY
variable {φ : Fs} {k x y : Nat} (hl : φ.length ≤ 28)
theorem YS_0 (h : Sol φ k x y 0) : YS φ k x y 0 := Or.inl ⟨0, rfl, h, Nat.pow_pos (by decide), by rw [pcH_0]; decide, fun S' _ q => by rw [pcH_0] at q; omega, fun S' _ _ _ => Nat.zero_le _⟩
theorem YS_1 (hl : φ.length ≤ 28) (h0 : ¬ Sol φ k x y 0) {i : Nat} (hi : i < φ.length) (h : Sol φ k x y (2 ^ i)) (hm : ∀ i', i' < i → ¬ Sol φ k x y (2 ^ i')) : YS φ k x y ((2 ^ i : Nat) : Int) := by
  have e := pc_p (i := i) (by omega)
  refine Or.inl ⟨2 ^ i, rfl, h, Nat.pow_lt_pow_right (by decide) hi, by omega, fun S' h1 h2 => ?_, fun S' h1 h2 h3 => ?_⟩
  · have := pc_0 (S := S') (Nat.lt_of_lt_of_le h1 (Nat.pow_le_pow_right (by decide) (by omega))) (by omega)
    rw [this]; exact h0
  · obtain ⟨j, j1, j2⟩ := y1 hl h1 (by omega)
    rw [j2] at h3 ⊢
    exact Nat.pow_le_pow_right (by decide) (Nat.not_lt.mp (fun q => hm j q h3))
theorem YS_2 (hl : φ.length ≤ 28) (h0 : ¬ Sol φ k x y 0) (h1 : ∀ i, i < φ.length → ¬ Sol φ k x y (2 ^ i)) {j i : Nat} (hi : i < j) (hj : j < φ.length) (h : Sol φ k x y (2 ^ j ||| 2 ^ i)) (hm : ∀ j', j' < j → ∀ i', i' < j' → ¬ Sol φ k x y (2 ^ j' ||| 2 ^ i')) (hm2 : ∀ i', i' < i → ¬ Sol φ k x y (2 ^ j ||| 2 ^ i')) : YS φ k x y ((2 ^ j ||| 2 ^ i : Nat) : Int) := by
  have e := pc_2 hi (show j < 30 by omega)
  refine Or.inl ⟨_, rfl, h, Nat.or_lt_two_pow (Nat.pow_lt_pow_right (by decide) hj) (Nat.pow_lt_pow_right (by decide) (by omega)), by omega, fun S' g1 g2 => ?_, fun S' g1 g2 g3 => ?_⟩
  · rcases (show pcH 30 S' = 0 ∨ pcH 30 S' = 1 by omega) with z | z
    · rw [pc_0 (S := S') (Nat.lt_of_lt_of_le g1 (Nat.pow_le_pow_right (by decide) (by omega))) z]; exact h0
    · obtain ⟨q, q1, q2⟩ := y1 hl g1 z
      rw [q2]; exact h1 q q1
  · obtain ⟨j', i', q1, q2, q3⟩ := y2 hl g1 (by omega)
    rw [q3] at g3 ⊢
    have hjj : j ≤ j' := Nat.not_lt.mp (fun q => hm j' q i' q1 g3)
    rw [or2 hi, or2 q1]
    have zi : 0 < 2 ^ i := Nat.pow_pos (by decide)
    have zj : 0 < 2 ^ j := Nat.pow_pos (by decide)
    have zi' : 0 < 2 ^ i' := Nat.pow_pos (by decide)
    have zj' : 0 < 2 ^ j' := Nat.pow_pos (by decide)
    by_cases e2 : j = j'
    · subst e2
      have : i ≤ i' := Nat.not_lt.mp (fun q => hm2 i' q g3)
      have := Nat.pow_le_pow_right (n := 2) (by decide) this
      omega
    · have a1 := p2_lt hi
      have a2 : 2 ^ (j + 1) ≤ 2 ^ j' := Nat.pow_le_pow_right (by decide) (by omega)
      omega
theorem YS_3 (hl : φ.length ≤ 28) (h0 : ¬ Sol φ k x y 0) (h1 : ∀ i, i < φ.length → ¬ Sol φ k x y (2 ^ i)) (h2 : ∀ j, j < φ.length → ∀ i, i < j → ¬ Sol φ k x y (2 ^ j ||| 2 ^ i)) {m j i : Nat} (hi : i < j) (hj : j < m) (hmm : m < φ.length) (h : Sol φ k x y (2 ^ m ||| 2 ^ j ||| 2 ^ i)) (ha : ∀ m', m' < m → ∀ j', j' < m' → ∀ i', i' < j' → ¬ Sol φ k x y (2 ^ m' ||| 2 ^ j' ||| 2 ^ i')) (hb : ∀ j', j' < j → ∀ i', i' < j' → ¬ Sol φ k x y (2 ^ m ||| 2 ^ j' ||| 2 ^ i')) (hc : ∀ i', i' < i → ¬ Sol φ k x y (2 ^ m ||| 2 ^ j ||| 2 ^ i')) : YS φ k x y ((2 ^ m ||| 2 ^ j ||| 2 ^ i : Nat) : Int) := by
  have e := pc_3 hi hj (show m < 30 by omega)
  refine Or.inl ⟨_, rfl, h, Nat.or_lt_two_pow (Nat.or_lt_two_pow (Nat.pow_lt_pow_right (by decide) hmm) (Nat.pow_lt_pow_right (by decide) (by omega))) (Nat.pow_lt_pow_right (by decide) (by omega)), by omega, fun S' g1 g2 => ?_, fun S' g1 g2 g3 => ?_⟩
  · rcases (show pcH 30 S' = 0 ∨ pcH 30 S' = 1 ∨ pcH 30 S' = 2 by omega) with z | z | z
    · rw [pc_0 (S := S') (Nat.lt_of_lt_of_le g1 (Nat.pow_le_pow_right (by decide) (by omega))) z]; exact h0
    · obtain ⟨q, q1, q2⟩ := y1 hl g1 z
      rw [q2]; exact h1 q q1
    · obtain ⟨j', i', q1, q2, q3⟩ := y2 hl g1 z
      rw [q3]; exact h2 j' q2 i' q1
  · obtain ⟨m', j', i', q1, q2, q3, q4⟩ := y3 hl g1 (by omega)
    rw [q4] at g3 ⊢
    have hmm2 : m ≤ m' := Nat.not_lt.mp (fun q => ha m' q j' q2 i' q1 g3)
    rw [or3 hi hj, or3 q1 q2]
    have zi : 0 < 2 ^ i := Nat.pow_pos (by decide)
    have zj : 0 < 2 ^ j := Nat.pow_pos (by decide)
    have zi' : 0 < 2 ^ i' := Nat.pow_pos (by decide)
    have zj' : 0 < 2 ^ j' := Nat.pow_pos (by decide)
    have zm : 0 < 2 ^ m := Nat.pow_pos (by decide)
    have zm' : 0 < 2 ^ m' := Nat.pow_pos (by decide)
    by_cases e2 : m = m'
    · subst e2
      have hjj : j ≤ j' := Nat.not_lt.mp (fun q => hb j' q i' q1 g3)
      by_cases e3 : j = j'
      · subst e3
        have : i ≤ i' := Nat.not_lt.mp (fun q => hc i' q g3)
        have := Nat.pow_le_pow_right (n := 2) (by decide) this
        omega
      · have a1 := p2_lt hi
        have a2 : 2 ^ (j + 1) ≤ 2 ^ j' := Nat.pow_le_pow_right (by decide) (by omega)
        omega
    · have a1 := p3_lt hi hj
      have a2 : 2 ^ (m + 1) ≤ 2 ^ m' := Nat.pow_le_pow_right (by decide) (by omega)
      omega
theorem YS_n (hl : φ.length ≤ 28) (h0 : ¬ Sol φ k x y 0) (h1 : ∀ i, i < φ.length → ¬ Sol φ k x y (2 ^ i)) (h2 : ∀ j, j < φ.length → ∀ i, i < j → ¬ Sol φ k x y (2 ^ j ||| 2 ^ i)) (h3 : ∀ m, m < φ.length → ∀ j, j < m → ∀ i, i < j → ¬ Sol φ k x y (2 ^ m ||| 2 ^ j ||| 2 ^ i)) : YS φ k x y (-2) := by
  refine Or.inr ⟨rfl, fun S' g1 g2 => ?_⟩
  rcases (show pcH 30 S' = 0 ∨ pcH 30 S' = 1 ∨ pcH 30 S' = 2 ∨ pcH 30 S' = 3 by omega) with z | z | z | z
  · rw [pc_0 (S := S') (Nat.lt_of_lt_of_le g1 (Nat.pow_le_pow_right (by decide) (by omega))) z]; exact h0
  · obtain ⟨q, q1, q2⟩ := y1 hl g1 z
    rw [q2]; exact h1 q q1
  · obtain ⟨j', i', q1, q2, q3⟩ := y2 hl g1 z
    rw [q3]; exact h2 j' q2 i' q1
  · obtain ⟨m', j', i', q1, q2, q3, q4⟩ := y3 hl g1 z
    rw [q4]; exact h3 m' q3 j' q2 i' q1
end YY
set_option maxHeartbeats 600000 in
set_option maxRecDepth 100000 in
theorem c_X10_isGoodWithout {G : Gx} {h : Hp} {nx : Nat} {m : Nat} {s : Nat → Int} (hm : h m = some (mo m s)) {N : Nat → Int} {it : Nat} {φ : Fs} (hn : h (m + 2) = some (ai G 86 N)) (hR : Rw N it φ) (hS : Sm it φ) {S : Nat → Int} (hu : h (m + 11) = some (ai G 64 S)) {Nt : Nat → Int} (ht : h (m + 8) = some (ai G 86 Nt)) {w k1 x y : Nat} (hw : w < 2147483648) (hk : k1 ≤ 1) (hx : x < it) (hy : y < it) (hne : x ≠ y) (hix : ix φ (x : Int) (y : Int) = -1) : Con G yX10_isGoodWithout cX10_isGoodWithout 6 (some .boolean) 6 0 0 [.ref m, vi (w : Int), vi (k1 : Int), vi (x : Int), vi (y : Int)] h nx (PI fun z h' => bz (Sol φ k1 x y w) z ∧ aI G 86 (h' (m + 8)) ∧ aI G 64 (h' (m + 11)) ∧ ∀ q : Nat, (q ≠ m + 8 ∧ q ≠ m + 11) → h' q = h q) := by
  obtain ⟨h8, h28, hsm⟩ := id hS
  refine Con.of v_X10_isGoodWithout.2.2.2.2.2.1 (Nat.le_of_ble_eq_true rfl) (lv := [(0, .ref m), (1, vi (w : Int)), (2, vi (k1 : Int)), (3, vi (x : Int)), (4, vi (y : Int))]) rfl (fun X k => ?_)
  generalize hQQ : QM G X nx 0 0 _ = QQ
  have fr0 : ∀ q : Nat, (q ≠ m + 8 ∧ q ≠ m + 11) → h q = h q := fun _ _ => rfl
  refine g_aload_n k rfl dX10_isGoodWithout_0 ?_
  refine g_get k 10 10 (C := RX10) (T := TX10) (N := 38) fl_X10_74 rfl wi_X10 (by decide) rfl hm rfl dX10_isGoodWithout_1 ?_
  refine g_iconst k dX10_isGoodWithout_4 ?_
  refine g_aload_n k rfl dX10_isGoodWithout_5 ?_
  refine g_get k 10 16 (C := RX10) (T := TX10) (N := 38) fl_X10_92 rfl wi_X10 (by decide) rfl hm rfl dX10_isGoodWithout_6 ?_
  refine g_iconst k dX10_isGoodWithout_9 ?_
  refine g_cSv k (As := [.ref (m + 2), vi 0, .ref (m + 8), vi 0]) v_X10_copy ml_X10_163 (c_X10_copy (st := 0) (to := 0) hn ht (by omega) (by omega) (by omega) (by omega) (by omega)) (by omega) (by omega) rfl (Nat.le_of_ble_eq_true rfl) rfl dX10_isGoodWithout_10 (fun h10 p10 => ?_)
  obtain ⟨nt, nfr⟩ := p10
  have hm_ : h10 m = some (mo m s) := (nfr _ (by omega)).trans hm
  have hn_ : h10 (m + 2) = some (ai G 86 N) := (nfr _ (by omega)).trans hn
  have hu_ : h10 (m + 11) = some (ai G 64 S) := (nfr _ (by omega)).trans hu
  have ht_ : h10 (m + 8) = some (ai G 86 (cpF N 0 Nt 0 86)) := nt
  have fr_ : ∀ q : Nat, (q ≠ m + 8 ∧ q ≠ m + 11) → h10 q = h q := fun q hq => (nfr q (by omega)).trans (fr0 q hq)
  have hRt : Rw (cpF N 0 Nt 0 86) it φ := hR.ext h28 (fun j hj => by have := @cpF_in N Nt 0 0 j hj; rw [Nat.zero_add] at this; exact this)
  refine g_aload_n k rfl dX10_isGoodWithout_13 ?_
  refine g_cVi k 10 (As := []) v_X10_facts rfl rfl hm_ ml_X10_237 (c_X10_facts hm_ hn_ hR hS) (by omega) (by omega) rfl (Nat.le_of_ble_eq_true rfl) rfl dX10_isGoodWithout_14 (fun r14 h14 p14 => ?_)
  obtain ⟨eh14, p14⟩ := p14
  have eh14 := eh14.symm; subst eh14
  subst p14
  refine g_iconst k dX10_isGoodWithout_17 ?_
  refine g_isub k dX10_isGoodWithout_18 ?_
  refine g_istore k (lv2 := [(0, .ref m), (1, vi (w : Int)), (2, vi (k1 : Int)), (3, vi (x : Int)), (4, vi (y : Int)), (5, vi ((φ.length : Int) - 1))]) (by decide) rfl rfl dX10_isGoodWithout_19 ?_
  have K21 : ∀ (nz : Nat) (v : Nat) (N1 : Nat → Int) (h21 : Hp) (hm__1 : h21 m = some (mo m s)) (hn__1 : h21 (m + 2) = some (ai G 86 N)) (hu__1 : h21 (m + 11) = some (ai G 64 S)) (ht__1 : h21 (m + 8) = some (ai G 86 N1)) (fr__1 : ∀ q : Nat, (q ≠ m + 8 ∧ q ≠ m + 11) → h21 q = h q) (hv : v ≤ φ.length) (hR1 : Rw N1 it (φ.take v ++ ksl φ w v (φ.length - v))) (hS1 : Sm it (φ.take v ++ ksl φ w v (φ.length - v))) (hmz : v < nz), Go G X 6 QQ 0 0 nx 21 [(0, .ref m), (1, vi (w : Int)), (2, vi (k1 : Int)), (3, vi (x : Int)), (4, vi (y : Int)), (5, vi ((v : Int) - 1))] [] h21 := by
    intro nz
    induction nz with
    | zero => intro v N1 h21 hm__1 hn__1 hu__1 ht__1 fr__1 hv hR1 hS1 hmz; exact absurd hmz (Nat.not_lt_zero _)
    | succ nz ih21 =>
      intro v N1 h21 hm__1 hn__1 hu__1 ht__1 fr__1 hv hR1 hS1 hmz
      refine g_iload k rfl dX10_isGoodWithout_21 ?_
      refine g_if_lt k (tgt := 50) (by omega) dX10_isGoodWithout_23 (by decide) (fun c23 => ?_) (fun c23 => ?_)
      · skip
        have hRf : Rw N1 it (ksl φ w 0 φ.length) := by have := hR1; rw [show v = 0 by omega, List.take_zero, List.nil_append] at this; exact this
        have hSf : Sm it (ksl φ w 0 φ.length) := by have := hS1; rw [show v = 0 by omega, List.take_zero, List.nil_append] at this; exact this
        refine g_aload_n k rfl dX10_isGoodWithout_50 ?_
        refine g_aload_n k rfl dX10_isGoodWithout_51 ?_
        refine g_get k 10 16 (C := RX10) (T := TX10) (N := 38) fl_X10_92 rfl wi_X10 (by decide) rfl hm__1 rfl dX10_isGoodWithout_52 ?_
        refine g_iload_n k rfl dX10_isGoodWithout_55 ?_
        refine g_iload_n k rfl dX10_isGoodWithout_56 ?_
        refine g_iload k rfl dX10_isGoodWithout_57 ?_
        refine g_cVi k 10 (As := [.ref (m + 8), vi (k1 : Int), vi (x : Int), vi (y : Int)]) v_X10_isGoodWith rfl rfl hm__1 ml_X10_270 (c_X10_isGoodWith hm__1 ht__1 hRf hSf (by omega) hu__1 (k1 := k1) (x := x) (y := y) hk hx hy hne (ix_ksl hix)) (by omega) (by omega) rfl (Nat.le_of_ble_eq_true rfl) rfl dX10_isGoodWithout_59 (fun r59 h59 p59 => ?_)
        obtain ⟨hz, ⟨N8, nt8, hR8⟩, ⟨S8, nu8⟩, nfr8⟩ := p59
        have hm__2 : h59 m = some (mo m s) := (nfr8 _ (by omega)).trans hm__1
        have hn__2 : h59 (m + 2) = some (ai G 86 N) := (nfr8 _ (by omega)).trans hn__1
        have hu__2 : h59 (m + 11) = some (ai G 64 S8) := nu8
        have ht__2 : h59 (m + 8) = some (ai G 86 N8) := nt8
        have fr__2 : ∀ q : Nat, (q ≠ m + 8 ∧ q ≠ m + 11) → h59 q = h q := fun q hq => (nfr8 q (by omega)).trans (fr__1 q hq)
        rw [← hQQ]
        refine g_zreti k hz.rg rfl dX10_isGoodWithout_62 ?_
        refine ⟨?_, ⟨_, ht__2⟩, ⟨_, hu__2⟩, fr__2⟩
        rcases hz with ⟨a1, a2⟩ | ⟨a1, a2⟩
        · exact Or.inl ⟨(Sol_ksl hk).mp a1, a2⟩
        · exact Or.inr ⟨fun q => a1 ((Sol_ksl hk).mpr q), a2⟩
      · skip
        rw [show (v : Int) - 1 = ((v - 1 : Nat) : Int) by omega]
        have ew : v - 1 + 1 = v := by omega
        refine g_iload_n k rfl dX10_isGoodWithout_26 ?_
        refine g_iload k rfl dX10_isGoodWithout_27 ?_
        refine g_cSi k (As := [vi (w : Int), vi ((v - 1 : Nat) : Int)]) v_X10_has ml_X10_286 (c_X10_has (w := w) (k1 := v - 1) hw (by omega)) (by omega) (by omega) rfl (Nat.le_of_ble_eq_true rfl) rfl dX10_isGoodWithout_29 (fun r29 h29 p29 => ?_)
        obtain ⟨eh29, p29⟩ := p29
        have eh29 := eh29.symm; subst eh29
        have q29 := p29
        have q29r := q29.r
        refine g_if_eq k (tgt := 44) (by omega) dX10_isGoodWithout_32 (by decide) (fun c32 => ?_) (fun c32 => ?_)
        · skip
          refine g_iinc k (lv2 := [(0, .ref m), (1, vi (w : Int)), (2, vi (k1 : Int)), (3, vi (x : Int)), (4, vi (y : Int)), (5, vi (((v - 1 : Nat) : Int) + (-1)))]) rfl (by decide) rfl rfl dX10_isGoodWithout_44 ?_
          refine g_goto k (tgt := 21) dX10_isGoodWithout_47 (by decide) ?_
          rw [show ((v - 1 : Nat) : Int) + -1 = ((v - 1 : Nat) : Int) - 1 by omega]
          exact ih21 (v - 1) _ h21 hm__1 hn__1 hu__1 ht__1 fr__1 (by omega) (by rw [ksl_y (by omega) (bz0.mp (q29.f (by omega))), ew]; exact hR1) (by rw [ksl_y (by omega) (bz0.mp (q29.f (by omega))), ew]; exact hS1) (by omega)
        · skip
          refine g_aload_n k rfl dX10_isGoodWithout_35 ?_
          refine g_get k 10 16 (C := RX10) (T := TX10) (N := 38) fl_X10_92 rfl wi_X10 (by decide) rfl hm__1 rfl dX10_isGoodWithout_36 ?_
          refine g_iload k rfl dX10_isGoodWithout_39 ?_
          refine g_cSv k (As := [.ref (m + 8), vi ((v - 1 : Nat) : Int)]) v_X10_forgets ml_X10_256 (c_X10_forgets ht__1 hR1 hS1 (k1 := v - 1) (by rw [List.length_append, List.length_take]; omega)) (by omega) (by omega) rfl (Nat.le_of_ble_eq_true rfl) rfl dX10_isGoodWithout_41 (fun h41 p41 => ?_)
          obtain ⟨⟨N7, nn7, hR7⟩, nfr7⟩ := p41
          have hm__3 : h41 m = some (mo m s) := (nfr7 _ (by omega)).trans hm__1
          have hn__3 : h41 (m + 2) = some (ai G 86 N) := (nfr7 _ (by omega)).trans hn__1
          have hu__3 : h41 (m + 11) = some (ai G 64 S) := (nfr7 _ (by omega)).trans hu__1
          have ht__3 : h41 (m + 8) = some (ai G 86 N7) := nn7
          have fr__3 : ∀ q : Nat, (q ≠ m + 8 ∧ q ≠ m + 11) → h41 q = h q := fun q hq => (nfr7 q (by omega)).trans (fr__1 q hq)
          refine g_iinc k (lv2 := [(0, .ref m), (1, vi (w : Int)), (2, vi (k1 : Int)), (3, vi (x : Int)), (4, vi (y : Int)), (5, vi (((v - 1 : Nat) : Int) + (-1)))]) rfl (by decide) rfl rfl dX10_isGoodWithout_44 ?_
          refine g_goto k (tgt := 21) dX10_isGoodWithout_47 (by decide) ?_
          have hnb : ¬ w / 2 ^ (v - 1) % 2 = 0 := fun q => bz0.mpr q (q29.t (by omega))
          rw [show ((v - 1 : Nat) : Int) + -1 = ((v - 1 : Nat) : Int) - 1 by omega]
          exact ih21 (v - 1) _ h41 hm__3 hn__3 hu__3 ht__3 fr__3 (by omega) (by rw [ksl_n (by omega) hnb, ew]; exact hR7) (by rw [ksl_n (by omega) hnb, ew]; exact Sm_fgt hS1 (by rw [List.length_append, List.length_take]; omega)) (by omega)
  exact K21 _ (φ.length) _ h10 hm_ hn_ hu_ ht_ fr_ (Nat.le_refl _) (by rw [List.take_length, Nat.sub_self]; show Rw _ it (φ ++ []); rw [List.append_nil]; exact hRt) (by rw [List.take_length, Nat.sub_self]; show Sm it (φ ++ []); rw [List.append_nil]; exact hS) (Nat.lt_succ_self _)

set_option maxHeartbeats 600000 in
set_option maxRecDepth 100000 in
theorem c_X10_yields {G : Gx} {h : Hp} {nx m : Nat} {it : Nat} {φ : Fs} {ps : List (Nat × Fs)} {im : Nat → Option (Nat × Fs)} {V : RV} {n : Nat} {T : Nat → Int} {ft : Nat} (hM : MS G h m it φ ps im V n T ft) (hS : Sm it φ) {kx p p2 : Int} (rkx : -2147483648 ≤ kx ∧ kx ≤ 2147483647) (rp : -2147483648 ≤ p ∧ p ≤ 2147483647) (rp2 : -2147483648 ≤ p2 ∧ p2 ≤ 2147483647) : Con G yX10_yields cX10_yields 7 (some .int) 7 0 0 [.ref m, vi kx, vi p, vi p2] h nx (PI fun z h' => ((nmd it φ kx p p2 → YS φ kx.toNat p.toNat p2.toNat z) ∧ (¬ nmd it φ kx p p2 → z = -1)) ∧ MT G h' m 0 it φ ps im V n T ft ∧ ∀ q : Nat, (q < m ∨ m + 17 < q) → h' q = h q) := by
  obtain ⟨th, s, ⟨hm, cq1, cq2, cq3, cq4, cq5, cq6, cq7, cq8, cq9, cq10, cq11, cq12, cq13, cq14, cq15, cq16, cq17⟩, hsc, hth⟩ := hM
  obtain ⟨z1, z6, z9, z14, z17, z15, z16⟩ := id hsc
  obtain ⟨N, hn, hR⟩ := id cq2
  obtain ⟨S, hu⟩ := id cq11
  obtain ⟨Nt, ht⟩ := id cq8
  obtain ⟨h8, h28, hsm⟩ := id hS
  refine Con.of v_X10_yields.2.2.2.2.2.1 (Nat.le_of_ble_eq_true rfl) (lv := [(0, .ref m), (1, vi kx), (2, vi p), (3, vi p2)]) rfl (fun X k => ?_)
  generalize hQQ : QM G X nx 0 0 _ = QQ
  have fr0 : ∀ q : Nat, (q ≠ m ∧ q ≠ m + 8 ∧ q ≠ m + 11) → h q = h q := fun _ _ => rfl
  refine g_aload_n k rfl dX10_yields_0 ?_
  refine g_iconst k dX10_yields_1 ?_
  refine g_put k 10 0 (C := RX10) (T := TX10) (N := 38) fl_X10_1 rfl wi_X10 tyX10 tyX10_ok nmX10 (by decide) rfl rfl rfl rfl hm (Nat.le_of_ble_eq_true rfl) (fs2 := mol m (fu s 0 0)) rfl rfl dX10_yields_2 (fun h2 eh2 => ?_)
  have hm_ : h2 m = some (mo m (fu s 0 0)) := (congrFun eh2 _).trans hup_s
  have hn_ : h2 (m + 2) = some (ai G 86 N) := (congrFun eh2 _).trans ((hup_n (by omega)).trans hn)
  have hu_ : h2 (m + 11) = some (ai G 64 S) := (congrFun eh2 _).trans ((hup_n (by omega)).trans hu)
  have ht_ : h2 (m + 8) = some (ai G 86 Nt) := (congrFun eh2 _).trans ((hup_n (by omega)).trans ht)
  have fr_ : ∀ q : Nat, (q ≠ m ∧ q ≠ m + 8 ∧ q ≠ m + 11) → h2 q = h q := fun q hq => (congrFun eh2 q).trans ((hup_n (by omega)).trans (fr0 q hq))
  refine g_aload_n k rfl dX10_yields_5 ?_
  refine g_iload_n k rfl dX10_yields_6 ?_
  refine g_iload_n k rfl dX10_yields_7 ?_
  refine g_iload_n k rfl dX10_yields_8 ?_
  refine g_cVi k 10 (As := [vi kx, vi p, vi p2]) v_X10_mayTell rfl rfl hm_ ml_X10_253 (c_X10_mayTell hm_ hn_ hR hS rkx rp rp2) (by omega) (by omega) rfl (Nat.le_of_ble_eq_true rfl) rfl dX10_yields_9 (fun r9 h9 p9 => ?_)
  obtain ⟨eh9, p9⟩ := p9
  have eh9 := eh9.symm; subst eh9
  have q9 := p9
  have q9r := q9.r
  refine g_if_ne k (tgt := 17) (by omega) dX10_yields_12 (by decide) (fun c12 => ?_) (fun c12 => ?_)
  · skip
    have hnd := q9.t (by omega)
    obtain ⟨k1, ek1⟩ : ∃ k1 : Nat, kx = k1 := ⟨kx.toNat, by have := hnd.1; omega⟩
    obtain ⟨x1, ex1, hx1⟩ := nat_of hnd.2.1.1
    obtain ⟨y1, ey1, hy1⟩ := nat_of hnd.2.1.2.1
    have hk1 : k1 ≤ 1 := by have := hnd.1; omega
    have hne : x1 ≠ y1 := by have := hnd.2.1.2.2; omega
    have hix : ix φ (x1 : Int) (y1 : Int) = -1 := by rw [← ex1, ← ey1]; exact hnd.2.2
    have hnd2 : nmd it φ (k1 : Int) (x1 : Int) (y1 : Int) := by rw [← ek1, ← ex1, ← ey1]; exact hnd
    rw [ek1, ex1, ey1]
    rw [ek1, ex1, ey1] at hQQ
    refine g_aload_n k rfl dX10_yields_17 ?_
    refine g_iconst k dX10_yields_18 ?_
    refine g_iload_n k rfl dX10_yields_19 ?_
    refine g_iload_n k rfl dX10_yields_20 ?_
    refine g_iload_n k rfl dX10_yields_21 ?_
    refine g_cVi k 10 (As := [vi 0, vi (k1 : Int), vi (x1 : Int), vi (y1 : Int)]) v_X10_isGoodWithout rfl rfl hm_ ml_X10_289 (c_X10_isGoodWithout hm_ hn_ hR hS hu_ ht_ (w := 0) (k1 := k1) (x := x1) (y := y1) (by omega) hk1 hx1 hy1 hne hix) (by omega) (by omega) rfl (Nat.le_of_ble_eq_true rfl) rfl dX10_yields_22 (fun r22 h22 p22 => ?_)
    obtain ⟨z22, ⟨N22, nt22⟩, ⟨S22, nu22⟩, nfr22⟩ := p22
    have hm__1 : h22 m = some (mo m (fu s 0 0)) := (nfr22 _ (by omega)).trans hm_
    have hn__1 : h22 (m + 2) = some (ai G 86 N) := (nfr22 _ (by omega)).trans hn_
    have hu__1 : h22 (m + 11) = some (ai G 64 S22) := nu22
    have ht__1 : h22 (m + 8) = some (ai G 86 N22) := nt22
    have fr__1 : ∀ q : Nat, (q ≠ m ∧ q ≠ m + 8 ∧ q ≠ m + 11) → h22 q = h q := fun q hq => (nfr22 q (by omega)).trans (fr_ q hq)
    have z22r := z22.r
    refine g_if_eq k (tgt := 30) (by omega) dX10_yields_25 (by decide) (fun c25 => ?_) (fun c25 => ?_)
    · skip
      have h0 := z22.f (by omega)
      refine g_iconst k dX10_yields_30 ?_
      refine g_istore k (lv2 := [(0, .ref m), (1, vi (k1 : Int)), (2, vi (x1 : Int)), (3, vi (y1 : Int)), (4, vi 0)]) (by decide) rfl rfl dX10_yields_31 ?_
      have K33 : ∀ (nz : Nat) (i : Nat) (Ni : Nat → Int) (Si : Nat → Int) (h33 : Hp) (hm__2 : h33 m = some (mo m (fu s 0 0))) (hn__2 : h33 (m + 2) = some (ai G 86 N)) (hu__2 : h33 (m + 11) = some (ai G 64 Si)) (ht__2 : h33 (m + 8) = some (ai G 86 Ni)) (fr__2 : ∀ q : Nat, (q ≠ m ∧ q ≠ m + 8 ∧ q ≠ m + 11) → h33 q = h q) (hi : i ≤ φ.length) (hN1 : ∀ i', i' < i → ¬ Sol φ k1 x1 y1 (2 ^ i')) (hmz : φ.length - i < nz), Go G X 7 QQ 0 0 nx 33 [(0, .ref m), (1, vi (k1 : Int)), (2, vi (x1 : Int)), (3, vi (y1 : Int)), (4, vi (i : Int))] [] h33 := by
        intro nz
        induction nz with
        | zero => intro i Ni Si h33 hm__2 hn__2 hu__2 ht__2 fr__2 hi hN1 hmz; exact absurd hmz (Nat.not_lt_zero _)
        | succ nz ih33 =>
          intro i Ni Si h33 hm__2 hn__2 hu__2 ht__2 fr__2 hi hN1 hmz
          refine g_iload k rfl dX10_yields_33 ?_
          refine g_aload_n k rfl dX10_yields_35 ?_
          refine g_cVi k 10 (As := []) v_X10_facts rfl rfl hm__2 ml_X10_237 (c_X10_facts hm__2 hn__2 hR hS) (by omega) (by omega) rfl (Nat.le_of_ble_eq_true rfl) rfl dX10_yields_36 (fun r36 h36 p36 => ?_)
          obtain ⟨eh36, p36⟩ := p36
          have eh36 := eh36.symm; subst eh36
          subst p36
          refine g_icmp_ge k (tgt := 67) (by omega) (by omega) dX10_yields_39 (by decide) (fun c39 => ?_) (fun c39 => ?_)
          · skip
            have h1 : ∀ i, i < φ.length → ¬ Sol φ k1 x1 y1 (2 ^ i) := fun i0 hi0 => hN1 i0 (by omega)
            refine g_iconst k dX10_yields_67 ?_
            refine g_istore k (lv2 := [(0, .ref m), (1, vi (k1 : Int)), (2, vi (x1 : Int)), (3, vi (y1 : Int)), (4, vi 1)]) (by decide) rfl rfl dX10_yields_68 ?_
            have K70 : ∀ (nz_1 : Nat) (j : Nat) (Nj : Nat → Int) (Sj : Nat → Int) (h70 : Hp) (hm__3 : h70 m = some (mo m (fu s 0 0))) (hn__3 : h70 (m + 2) = some (ai G 86 N)) (hu__3 : h70 (m + 11) = some (ai G 64 Sj)) (ht__3 : h70 (m + 8) = some (ai G 86 Nj)) (fr__3 : ∀ q : Nat, (q ≠ m ∧ q ≠ m + 8 ∧ q ≠ m + 11) → h70 q = h q) (hj : 1 ≤ j ∧ (j ≤ φ.length ∨ j = 1)) (hN2 : ∀ j', j' < j → ∀ i', i' < j' → ¬ Sol φ k1 x1 y1 (2 ^ j' ||| 2 ^ i')) (hmz_1 : φ.length - j < nz_1), Go G X 7 QQ 0 0 nx 70 [(0, .ref m), (1, vi (k1 : Int)), (2, vi (x1 : Int)), (3, vi (y1 : Int)), (4, vi (j : Int))] [] h70 := by
              intro nz_1
              induction nz_1 with
              | zero => intro j Nj Sj h70 hm__3 hn__3 hu__3 ht__3 fr__3 hj hN2 hmz_1; exact absurd hmz_1 (Nat.not_lt_zero _)
              | succ nz_1 ih70 =>
                intro j Nj Sj h70 hm__3 hn__3 hu__3 ht__3 fr__3 hj hN2 hmz_1
                refine g_iload k rfl dX10_yields_70 ?_
                refine g_aload_n k rfl dX10_yields_72 ?_
                refine g_cVi k 10 (As := []) v_X10_facts rfl rfl hm__3 ml_X10_237 (c_X10_facts hm__3 hn__3 hR hS) (by omega) (by omega) rfl (Nat.le_of_ble_eq_true rfl) rfl dX10_yields_73 (fun r73 h73 p73 => ?_)
                obtain ⟨eh73, p73⟩ := p73
                have eh73 := eh73.symm; subst eh73
                subst p73
                refine g_icmp_ge k (tgt := 130) (by omega) (by omega) dX10_yields_76 (by decide) (fun c76 => ?_) (fun c76 => ?_)
                · skip
                  have h2 : ∀ j, j < φ.length → ∀ i, i < j → ¬ Sol φ k1 x1 y1 (2 ^ j ||| 2 ^ i) := fun j0 hj0 => hN2 j0 (by omega)
                  refine g_iconst k dX10_yields_130 ?_
                  refine g_istore k (lv2 := [(0, .ref m), (1, vi (k1 : Int)), (2, vi (x1 : Int)), (3, vi (y1 : Int)), (4, vi 2)]) (by decide) rfl rfl dX10_yields_131 ?_
                  have K133 : ∀ (nz_2 : Nat) (m3 : Nat) (Nm3 : Nat → Int) (Sm3 : Nat → Int) (h133 : Hp) (hm__4 : h133 m = some (mo m (fu s 0 0))) (hn__4 : h133 (m + 2) = some (ai G 86 N)) (hu__4 : h133 (m + 11) = some (ai G 64 Sm3)) (ht__4 : h133 (m + 8) = some (ai G 86 Nm3)) (fr__4 : ∀ q : Nat, (q ≠ m ∧ q ≠ m + 8 ∧ q ≠ m + 11) → h133 q = h q) (hm3 : 2 ≤ m3 ∧ (m3 ≤ φ.length ∨ m3 = 2)) (hN4 : ∀ m', m' < m3 → ∀ j', j' < m' → ∀ i', i' < j' → ¬ Sol φ k1 x1 y1 (2 ^ m' ||| 2 ^ j' ||| 2 ^ i')) (hmz_2 : φ.length - m3 < nz_2), Go G X 7 QQ 0 0 nx 133 [(0, .ref m), (1, vi (k1 : Int)), (2, vi (x1 : Int)), (3, vi (y1 : Int)), (4, vi (m3 : Int))] [] h133 := by
                    intro nz_2
                    induction nz_2 with
                    | zero => intro m3 Nm3 Sm3 h133 hm__4 hn__4 hu__4 ht__4 fr__4 hm3 hN4 hmz_2; exact absurd hmz_2 (Nat.not_lt_zero _)
                    | succ nz_2 ih133 =>
                      intro m3 Nm3 Sm3 h133 hm__4 hn__4 hu__4 ht__4 fr__4 hm3 hN4 hmz_2
                      refine g_iload k rfl dX10_yields_133 ?_
                      refine g_aload_n k rfl dX10_yields_135 ?_
                      refine g_cVi k 10 (As := []) v_X10_facts rfl rfl hm__4 ml_X10_237 (c_X10_facts hm__4 hn__4 hR hS) (by omega) (by omega) rfl (Nat.le_of_ble_eq_true rfl) rfl dX10_yields_136 (fun r136 h136 p136 => ?_)
                      obtain ⟨eh136, p136⟩ := p136
                      have eh136 := eh136.symm; subst eh136
                      subst p136
                      refine g_icmp_ge k (tgt := 219) (by omega) (by omega) dX10_yields_139 (by decide) (fun c139 => ?_) (fun c139 => ?_)
                      · skip
                        refine g_bipush k rfl dX10_yields_219 ?_
                        rw [← hQQ]
                        refine g_ireti k rfl dX10_yields_221 ?_
                        rw [Int.toNat_natCast, Int.toNat_natCast, Int.toNat_natCast]
                        exact ⟨⟨fun _ => YS_n h28 h0 h1 h2 (fun m0 hm0 => hN4 m0 (by omega)), fun q => absurd hnd2 q⟩, ⟨_, ⟨hm__4, ((fr__4 (m + 1) (by omega)).trans cq1), ⟨N, hn__4, hR⟩, (by rw [fr__4 (m + 3) (by omega)]; exact cq3), (by rw [fr__4 (m + 4) (by omega)]; exact cq4), (by rw [fr__4 (m + 5) (by omega)]; exact cq5), (by rw [fr__4 (m + 6) (by omega)]; exact cq6), (by rw [fr__4 (m + 7) (by omega)]; exact cq7), ⟨_, ht__4⟩, (by rw [fr__4 (m + 9) (by omega)]; exact cq9), (by rw [fr__4 (m + 10) (by omega)]; exact cq10), ⟨_, hu__4⟩, (by rw [fr__4 (m + 12) (by omega)]; exact cq12), (by rw [fr__4 (m + 13) (by omega)]; exact cq13), (by rw [fr__4 (m + 14) (by omega)]; exact cq14), (by rw [fr__4 (m + 15) (by omega)]; exact cq15), (by rw [fr__4 (m + 16) (by omega)]; exact cq16), (by rw [fr__4 (m + 17) (by omega)]; exact cq17)⟩, hsc, rfl⟩, (fun q hq => fr__4 q (by omega))⟩
                      · skip
                        refine g_iconst k dX10_yields_142 ?_
                        refine g_istore k (lv2 := [(0, .ref m), (1, vi (k1 : Int)), (2, vi (x1 : Int)), (3, vi (y1 : Int)), (4, vi (m3 : Int)), (5, vi 1)]) (by decide) rfl rfl dX10_yields_143 ?_
                        have K145 : ∀ (nz_3 : Nat) (j3 : Nat) (Nj3 : Nat → Int) (Sj3 : Nat → Int) (h145 : Hp) (hm__5 : h145 m = some (mo m (fu s 0 0))) (hn__5 : h145 (m + 2) = some (ai G 86 N)) (hu__5 : h145 (m + 11) = some (ai G 64 Sj3)) (ht__5 : h145 (m + 8) = some (ai G 86 Nj3)) (fr__5 : ∀ q : Nat, (q ≠ m ∧ q ≠ m + 8 ∧ q ≠ m + 11) → h145 q = h q) (hj3 : 1 ≤ j3 ∧ j3 ≤ m3) (hN5 : ∀ j', j' < j3 → ∀ i', i' < j' → ¬ Sol φ k1 x1 y1 (2 ^ m3 ||| 2 ^ j' ||| 2 ^ i')) (hmz_3 : m3 - j3 < nz_3), Go G X 7 QQ 0 0 nx 145 [(0, .ref m), (1, vi (k1 : Int)), (2, vi (x1 : Int)), (3, vi (y1 : Int)), (4, vi (m3 : Int)), (5, vi (j3 : Int))] [] h145 := by
                          intro nz_3
                          induction nz_3 with
                          | zero => intro j3 Nj3 Sj3 h145 hm__5 hn__5 hu__5 ht__5 fr__5 hj3 hN5 hmz_3; exact absurd hmz_3 (Nat.not_lt_zero _)
                          | succ nz_3 ih145 =>
                            intro j3 Nj3 Sj3 h145 hm__5 hn__5 hu__5 ht__5 fr__5 hj3 hN5 hmz_3
                            refine g_iload k rfl dX10_yields_145 ?_
                            refine g_iload k rfl dX10_yields_147 ?_
                            refine g_icmp_ge k (tgt := 213) (by omega) (by omega) dX10_yields_149 (by decide) (fun c149 => ?_) (fun c149 => ?_)
                            · skip
                              refine g_iinc k (lv2 := [(0, .ref m), (1, vi (k1 : Int)), (2, vi (x1 : Int)), (3, vi (y1 : Int)), (4, vi ((m3 : Int) + 1)), (5, vi (j3 : Int))]) rfl (by decide) rfl rfl dX10_yields_213 ?_
                              refine g_goto k (tgt := 133) dX10_yields_216 (by decide) ?_
                              refine g_less (lv2 := [(0, .ref m), (1, vi (k1 : Int)), (2, vi (x1 : Int)), (3, vi (y1 : Int)), (4, vi ((m3 : Int) + 1))]) ⟨rfl, rfl, rfl, rfl, rfl, trivial⟩ ?_
                              exact ih133 (m3 + 1) _ _ h145 hm__5 hn__5 hu__5 ht__5 fr__5 (by omega) (lt_s2 hN4 (fun j0 hj0 => hN5 j0 (by omega))) (by omega)
                            · skip
                              refine g_iconst k dX10_yields_152 ?_
                              refine g_istore k (lv2 := [(0, .ref m), (1, vi (k1 : Int)), (2, vi (x1 : Int)), (3, vi (y1 : Int)), (4, vi (m3 : Int)), (5, vi (j3 : Int)), (6, vi 0)]) (by decide) rfl rfl dX10_yields_153 ?_
                              have K155 : ∀ (nz_4 : Nat) (i3 : Nat) (Ni3 : Nat → Int) (Si3 : Nat → Int) (h155 : Hp) (hm__6 : h155 m = some (mo m (fu s 0 0))) (hn__6 : h155 (m + 2) = some (ai G 86 N)) (hu__6 : h155 (m + 11) = some (ai G 64 Si3)) (ht__6 : h155 (m + 8) = some (ai G 86 Ni3)) (fr__6 : ∀ q : Nat, (q ≠ m ∧ q ≠ m + 8 ∧ q ≠ m + 11) → h155 q = h q) (hi3 : i3 ≤ j3) (hN6 : ∀ i', i' < i3 → ¬ Sol φ k1 x1 y1 (2 ^ m3 ||| 2 ^ j3 ||| 2 ^ i')) (hmz_4 : j3 - i3 < nz_4), Go G X 7 QQ 0 0 nx 155 [(0, .ref m), (1, vi (k1 : Int)), (2, vi (x1 : Int)), (3, vi (y1 : Int)), (4, vi (m3 : Int)), (5, vi (j3 : Int)), (6, vi (i3 : Int))] [] h155 := by
                                intro nz_4
                                induction nz_4 with
                                | zero => intro i3 Ni3 Si3 h155 hm__6 hn__6 hu__6 ht__6 fr__6 hi3 hN6 hmz_4; exact absurd hmz_4 (Nat.not_lt_zero _)
                                | succ nz_4 ih155 =>
                                  intro i3 Ni3 Si3 h155 hm__6 hn__6 hu__6 ht__6 fr__6 hi3 hN6 hmz_4
                                  refine g_iload k rfl dX10_yields_155 ?_
                                  refine g_iload k rfl dX10_yields_157 ?_
                                  refine g_icmp_ge k (tgt := 207) (by omega) (by omega) dX10_yields_159 (by decide) (fun c159 => ?_) (fun c159 => ?_)
                                  · skip
                                    refine g_iinc k (lv2 := [(0, .ref m), (1, vi (k1 : Int)), (2, vi (x1 : Int)), (3, vi (y1 : Int)), (4, vi (m3 : Int)), (5, vi ((j3 : Int) + 1)), (6, vi (i3 : Int))]) rfl (by decide) rfl rfl dX10_yields_207 ?_
                                    refine g_goto k (tgt := 145) dX10_yields_210 (by decide) ?_
                                    refine g_less (lv2 := [(0, .ref m), (1, vi (k1 : Int)), (2, vi (x1 : Int)), (3, vi (y1 : Int)), (4, vi (m3 : Int)), (5, vi ((j3 : Int) + 1))]) ⟨rfl, rfl, rfl, rfl, rfl, rfl, trivial⟩ ?_
                                    exact ih145 (j3 + 1) _ _ h155 hm__6 hn__6 hu__6 ht__6 fr__6 (by omega) (lt_s2 hN5 (fun i0 hi0 => hN6 i0 (by omega))) (by omega)
                                  · skip
                                    have hpm := pow31 (n := m3) (by omega)
                                    have hpj := pow31 (n := j3) (by omega)
                                    have hpi := pow31 (n := i3) (by omega)
                                    have hpo : 2 ^ m3 ||| 2 ^ j3 < 2147483648 := Nat.or_lt_two_pow (n := 31) hpm hpj
                                    have hpo2 : 2 ^ m3 ||| 2 ^ j3 ||| 2 ^ i3 < 2147483648 := Nat.or_lt_two_pow (n := 31) hpo hpi
                                    refine g_aload_n k rfl dX10_yields_162 ?_
                                    refine g_iconst k dX10_yields_163 ?_
                                    refine g_iload k rfl dX10_yields_164 ?_
                                    refine g_ishl k (by omega) dX10_yields_166 ?_
                                    rw [show 1 * 2 ^ ((m3 : Int)).toNat = ((2 ^ m3 : Nat) : Int) from (by rw [Int.toNat_natCast]; simp)]
                                    refine g_iconst k dX10_yields_167 ?_
                                    refine g_iload k rfl dX10_yields_168 ?_
                                    refine g_ishl k (by omega) dX10_yields_170 ?_
                                    rw [show 1 * 2 ^ ((j3 : Int)).toNat = ((2 ^ j3 : Nat) : Int) from (by rw [Int.toNat_natCast]; simp)]
                                    refine g_ior k (a := 2 ^ m3) (b := 2 ^ j3) (by omega) (by omega) dX10_yields_171 ?_
                                    refine g_iconst k dX10_yields_172 ?_
                                    refine g_iload k rfl dX10_yields_173 ?_
                                    refine g_ishl k (by omega) dX10_yields_175 ?_
                                    rw [show 1 * 2 ^ ((i3 : Int)).toNat = ((2 ^ i3 : Nat) : Int) from (by rw [Int.toNat_natCast]; simp)]
                                    refine g_ior k (a := (2 ^ m3 ||| 2 ^ j3)) (b := 2 ^ i3) (by omega) (by omega) dX10_yields_176 ?_
                                    refine g_iload_n k rfl dX10_yields_177 ?_
                                    refine g_iload_n k rfl dX10_yields_178 ?_
                                    refine g_iload_n k rfl dX10_yields_179 ?_
                                    refine g_cVi k 10 (As := [vi (((2 ^ m3 ||| 2 ^ j3) ||| 2 ^ i3 : Nat) : Int), vi (k1 : Int), vi (x1 : Int), vi (y1 : Int)]) v_X10_isGoodWithout rfl rfl hm__6 ml_X10_289 (c_X10_isGoodWithout hm__6 hn__6 hR hS hu__6 ht__6 (w := 2 ^ m3 ||| 2 ^ j3 ||| 2 ^ i3) (k1 := k1) (x := x1) (y := y1) (by omega) hk1 hx1 hy1 hne hix) (by omega) (by omega) rfl (Nat.le_of_ble_eq_true rfl) rfl dX10_yields_180 (fun r180 h180 p180 => ?_)
                                    obtain ⟨z180, ⟨N180, nt180⟩, ⟨S180, nu180⟩, nfr180⟩ := p180
                                    have hm__7 : h180 m = some (mo m (fu s 0 0)) := (nfr180 _ (by omega)).trans hm__6
                                    have hn__7 : h180 (m + 2) = some (ai G 86 N) := (nfr180 _ (by omega)).trans hn__6
                                    have hu__7 : h180 (m + 11) = some (ai G 64 S180) := nu180
                                    have ht__7 : h180 (m + 8) = some (ai G 86 N180) := nt180
                                    have fr__7 : ∀ q : Nat, (q ≠ m ∧ q ≠ m + 8 ∧ q ≠ m + 11) → h180 q = h q := fun q hq => (nfr180 q (by omega)).trans (fr__6 q hq)
                                    have z180r := z180.r
                                    refine g_if_eq k (tgt := 201) (by omega) dX10_yields_183 (by decide) (fun c183 => ?_) (fun c183 => ?_)
                                    · skip
                                      refine g_iinc k (lv2 := [(0, .ref m), (1, vi (k1 : Int)), (2, vi (x1 : Int)), (3, vi (y1 : Int)), (4, vi (m3 : Int)), (5, vi (j3 : Int)), (6, vi ((i3 : Int) + 1))]) rfl (by decide) rfl rfl dX10_yields_201 ?_
                                      refine g_goto k (tgt := 155) dX10_yields_204 (by decide) ?_
                                      exact ih155 (i3 + 1) _ _ h180 hm__7 hn__7 hu__7 ht__7 fr__7 (by omega) (lt_s2 hN6 (z180.f (by omega))) (by omega)
                                    · skip
                                      refine g_iconst k dX10_yields_186 ?_
                                      refine g_iload k rfl dX10_yields_187 ?_
                                      refine g_ishl k (by omega) dX10_yields_189 ?_
                                      rw [show 1 * 2 ^ ((m3 : Int)).toNat = ((2 ^ m3 : Nat) : Int) from (by rw [Int.toNat_natCast]; simp)]
                                      refine g_iconst k dX10_yields_190 ?_
                                      refine g_iload k rfl dX10_yields_191 ?_
                                      refine g_ishl k (by omega) dX10_yields_193 ?_
                                      rw [show 1 * 2 ^ ((j3 : Int)).toNat = ((2 ^ j3 : Nat) : Int) from (by rw [Int.toNat_natCast]; simp)]
                                      refine g_ior k (a := 2 ^ m3) (b := 2 ^ j3) (by omega) (by omega) dX10_yields_194 ?_
                                      refine g_iconst k dX10_yields_195 ?_
                                      refine g_iload k rfl dX10_yields_196 ?_
                                      refine g_ishl k (by omega) dX10_yields_198 ?_
                                      rw [show 1 * 2 ^ ((i3 : Int)).toNat = ((2 ^ i3 : Nat) : Int) from (by rw [Int.toNat_natCast]; simp)]
                                      refine g_ior k (a := (2 ^ m3 ||| 2 ^ j3)) (b := 2 ^ i3) (by omega) (by omega) dX10_yields_199 ?_
                                      rw [← hQQ]
                                      refine g_ireti k rfl dX10_yields_200 ?_
                                      rw [Int.toNat_natCast, Int.toNat_natCast, Int.toNat_natCast]
                                      exact ⟨⟨fun _ => YS_3 h28 h0 h1 h2 (by omega) (by omega) (by omega) (z180.t (by omega)) hN4 hN5 hN6, fun q => absurd hnd2 q⟩, ⟨_, ⟨hm__7, ((fr__7 (m + 1) (by omega)).trans cq1), ⟨N, hn__7, hR⟩, (by rw [fr__7 (m + 3) (by omega)]; exact cq3), (by rw [fr__7 (m + 4) (by omega)]; exact cq4), (by rw [fr__7 (m + 5) (by omega)]; exact cq5), (by rw [fr__7 (m + 6) (by omega)]; exact cq6), (by rw [fr__7 (m + 7) (by omega)]; exact cq7), ⟨_, ht__7⟩, (by rw [fr__7 (m + 9) (by omega)]; exact cq9), (by rw [fr__7 (m + 10) (by omega)]; exact cq10), ⟨_, hu__7⟩, (by rw [fr__7 (m + 12) (by omega)]; exact cq12), (by rw [fr__7 (m + 13) (by omega)]; exact cq13), (by rw [fr__7 (m + 14) (by omega)]; exact cq14), (by rw [fr__7 (m + 15) (by omega)]; exact cq15), (by rw [fr__7 (m + 16) (by omega)]; exact cq16), (by rw [fr__7 (m + 17) (by omega)]; exact cq17)⟩, hsc, rfl⟩, (fun q hq => fr__7 q (by omega))⟩
                              exact K155 _ 0 _ _ h145 hm__5 hn__5 hu__5 ht__5 fr__5 (Nat.zero_le _) (fun j hj => absurd hj (Nat.not_lt_zero j)) (Nat.lt_succ_self _)
                        exact K145 _ 1 _ _ h133 hm__4 hn__4 hu__4 ht__4 fr__4 (by omega) (fun j hj i hi => by omega) (Nat.lt_succ_self _)
                  exact K133 _ 2 _ _ h70 hm__3 hn__3 hu__3 ht__3 fr__3 (by omega) (fun m hm j hj i hi => by omega) (Nat.lt_succ_self _)
                · skip
                  refine g_iconst k dX10_yields_79 ?_
                  refine g_istore k (lv2 := [(0, .ref m), (1, vi (k1 : Int)), (2, vi (x1 : Int)), (3, vi (y1 : Int)), (4, vi (j : Int)), (5, vi 0)]) (by decide) rfl rfl dX10_yields_80 ?_
                  have K82 : ∀ (nz_5 : Nat) (i2 : Nat) (Ni2 : Nat → Int) (Si2 : Nat → Int) (h82 : Hp) (hm__8 : h82 m = some (mo m (fu s 0 0))) (hn__8 : h82 (m + 2) = some (ai G 86 N)) (hu__8 : h82 (m + 11) = some (ai G 64 Si2)) (ht__8 : h82 (m + 8) = some (ai G 86 Ni2)) (fr__8 : ∀ q : Nat, (q ≠ m ∧ q ≠ m + 8 ∧ q ≠ m + 11) → h82 q = h q) (hi2 : i2 ≤ j) (hN3 : ∀ i', i' < i2 → ¬ Sol φ k1 x1 y1 (2 ^ j ||| 2 ^ i')) (hmz_5 : j - i2 < nz_5), Go G X 7 QQ 0 0 nx 82 [(0, .ref m), (1, vi (k1 : Int)), (2, vi (x1 : Int)), (3, vi (y1 : Int)), (4, vi (j : Int)), (5, vi (i2 : Int))] [] h82 := by
                    intro nz_5
                    induction nz_5 with
                    | zero => intro i2 Ni2 Si2 h82 hm__8 hn__8 hu__8 ht__8 fr__8 hi2 hN3 hmz_5; exact absurd hmz_5 (Nat.not_lt_zero _)
                    | succ nz_5 ih82 =>
                      intro i2 Ni2 Si2 h82 hm__8 hn__8 hu__8 ht__8 fr__8 hi2 hN3 hmz_5
                      refine g_iload k rfl dX10_yields_82 ?_
                      refine g_iload k rfl dX10_yields_84 ?_
                      refine g_icmp_ge k (tgt := 124) (by omega) (by omega) dX10_yields_86 (by decide) (fun c86 => ?_) (fun c86 => ?_)
                      · skip
                        refine g_iinc k (lv2 := [(0, .ref m), (1, vi (k1 : Int)), (2, vi (x1 : Int)), (3, vi (y1 : Int)), (4, vi ((j : Int) + 1)), (5, vi (i2 : Int))]) rfl (by decide) rfl rfl dX10_yields_124 ?_
                        refine g_goto k (tgt := 70) dX10_yields_127 (by decide) ?_
                        refine g_less (lv2 := [(0, .ref m), (1, vi (k1 : Int)), (2, vi (x1 : Int)), (3, vi (y1 : Int)), (4, vi ((j : Int) + 1))]) ⟨rfl, rfl, rfl, rfl, rfl, trivial⟩ ?_
                        exact ih70 (j + 1) _ _ h82 hm__8 hn__8 hu__8 ht__8 fr__8 (by omega) (lt_s2 hN2 (fun i0 hi0 => hN3 i0 (by omega))) (by omega)
                      · skip
                        have hpj := pow31 (n := j) (by omega)
                        have hpi := pow31 (n := i2) (by omega)
                        have hpo : 2 ^ j ||| 2 ^ i2 < 2147483648 := Nat.or_lt_two_pow (n := 31) hpj hpi
                        refine g_aload_n k rfl dX10_yields_89 ?_
                        refine g_iconst k dX10_yields_90 ?_
                        refine g_iload k rfl dX10_yields_91 ?_
                        refine g_ishl k (by omega) dX10_yields_93 ?_
                        rw [show 1 * 2 ^ ((j : Int)).toNat = ((2 ^ j : Nat) : Int) from (by rw [Int.toNat_natCast]; simp)]
                        refine g_iconst k dX10_yields_94 ?_
                        refine g_iload k rfl dX10_yields_95 ?_
                        refine g_ishl k (by omega) dX10_yields_97 ?_
                        rw [show 1 * 2 ^ ((i2 : Int)).toNat = ((2 ^ i2 : Nat) : Int) from (by rw [Int.toNat_natCast]; simp)]
                        refine g_ior k (a := 2 ^ j) (b := 2 ^ i2) (by omega) (by omega) dX10_yields_98 ?_
                        refine g_iload_n k rfl dX10_yields_99 ?_
                        refine g_iload_n k rfl dX10_yields_100 ?_
                        refine g_iload_n k rfl dX10_yields_101 ?_
                        refine g_cVi k 10 (As := [vi ((2 ^ j ||| 2 ^ i2 : Nat) : Int), vi (k1 : Int), vi (x1 : Int), vi (y1 : Int)]) v_X10_isGoodWithout rfl rfl hm__8 ml_X10_289 (c_X10_isGoodWithout hm__8 hn__8 hR hS hu__8 ht__8 (w := 2 ^ j ||| 2 ^ i2) (k1 := k1) (x := x1) (y := y1) (by omega) hk1 hx1 hy1 hne hix) (by omega) (by omega) rfl (Nat.le_of_ble_eq_true rfl) rfl dX10_yields_102 (fun r102 h102 p102 => ?_)
                        obtain ⟨z102, ⟨N102, nt102⟩, ⟨S102, nu102⟩, nfr102⟩ := p102
                        have hm__9 : h102 m = some (mo m (fu s 0 0)) := (nfr102 _ (by omega)).trans hm__8
                        have hn__9 : h102 (m + 2) = some (ai G 86 N) := (nfr102 _ (by omega)).trans hn__8
                        have hu__9 : h102 (m + 11) = some (ai G 64 S102) := nu102
                        have ht__9 : h102 (m + 8) = some (ai G 86 N102) := nt102
                        have fr__9 : ∀ q : Nat, (q ≠ m ∧ q ≠ m + 8 ∧ q ≠ m + 11) → h102 q = h q := fun q hq => (nfr102 q (by omega)).trans (fr__8 q hq)
                        have z102r := z102.r
                        refine g_if_eq k (tgt := 118) (by omega) dX10_yields_105 (by decide) (fun c105 => ?_) (fun c105 => ?_)
                        · skip
                          refine g_iinc k (lv2 := [(0, .ref m), (1, vi (k1 : Int)), (2, vi (x1 : Int)), (3, vi (y1 : Int)), (4, vi (j : Int)), (5, vi ((i2 : Int) + 1))]) rfl (by decide) rfl rfl dX10_yields_118 ?_
                          refine g_goto k (tgt := 82) dX10_yields_121 (by decide) ?_
                          exact ih82 (i2 + 1) _ _ h102 hm__9 hn__9 hu__9 ht__9 fr__9 (by omega) (lt_s2 hN3 (z102.f (by omega))) (by omega)
                        · skip
                          refine g_iconst k dX10_yields_108 ?_
                          refine g_iload k rfl dX10_yields_109 ?_
                          refine g_ishl k (by omega) dX10_yields_111 ?_
                          rw [show 1 * 2 ^ ((j : Int)).toNat = ((2 ^ j : Nat) : Int) from (by rw [Int.toNat_natCast]; simp)]
                          refine g_iconst k dX10_yields_112 ?_
                          refine g_iload k rfl dX10_yields_113 ?_
                          refine g_ishl k (by omega) dX10_yields_115 ?_
                          rw [show 1 * 2 ^ ((i2 : Int)).toNat = ((2 ^ i2 : Nat) : Int) from (by rw [Int.toNat_natCast]; simp)]
                          refine g_ior k (a := 2 ^ j) (b := 2 ^ i2) (by omega) (by omega) dX10_yields_116 ?_
                          rw [← hQQ]
                          refine g_ireti k rfl dX10_yields_117 ?_
                          rw [Int.toNat_natCast, Int.toNat_natCast, Int.toNat_natCast]
                          exact ⟨⟨fun _ => YS_2 h28 h0 h1 (by omega) (by omega) (z102.t (by omega)) hN2 hN3, fun q => absurd hnd2 q⟩, ⟨_, ⟨hm__9, ((fr__9 (m + 1) (by omega)).trans cq1), ⟨N, hn__9, hR⟩, (by rw [fr__9 (m + 3) (by omega)]; exact cq3), (by rw [fr__9 (m + 4) (by omega)]; exact cq4), (by rw [fr__9 (m + 5) (by omega)]; exact cq5), (by rw [fr__9 (m + 6) (by omega)]; exact cq6), (by rw [fr__9 (m + 7) (by omega)]; exact cq7), ⟨_, ht__9⟩, (by rw [fr__9 (m + 9) (by omega)]; exact cq9), (by rw [fr__9 (m + 10) (by omega)]; exact cq10), ⟨_, hu__9⟩, (by rw [fr__9 (m + 12) (by omega)]; exact cq12), (by rw [fr__9 (m + 13) (by omega)]; exact cq13), (by rw [fr__9 (m + 14) (by omega)]; exact cq14), (by rw [fr__9 (m + 15) (by omega)]; exact cq15), (by rw [fr__9 (m + 16) (by omega)]; exact cq16), (by rw [fr__9 (m + 17) (by omega)]; exact cq17)⟩, hsc, rfl⟩, (fun q hq => fr__9 q (by omega))⟩
                  exact K82 _ 0 _ _ h70 hm__3 hn__3 hu__3 ht__3 fr__3 (Nat.zero_le _) (fun j hj => absurd hj (Nat.not_lt_zero j)) (Nat.lt_succ_self _)
            exact K70 _ 1 _ _ h33 hm__2 hn__2 hu__2 ht__2 fr__2 (by omega) (fun j hj i hi => by omega) (Nat.lt_succ_self _)
          · skip
            have hpi := pow31 (n := i) (by omega)
            refine g_aload_n k rfl dX10_yields_42 ?_
            refine g_iconst k dX10_yields_43 ?_
            refine g_iload k rfl dX10_yields_44 ?_
            refine g_ishl k (by omega) dX10_yields_46 ?_
            rw [show 1 * 2 ^ ((i : Int)).toNat = ((2 ^ i : Nat) : Int) from (by rw [Int.toNat_natCast]; simp)]
            refine g_iload_n k rfl dX10_yields_47 ?_
            refine g_iload_n k rfl dX10_yields_48 ?_
            refine g_iload_n k rfl dX10_yields_49 ?_
            refine g_cVi k 10 (As := [vi ((2 ^ i : Nat) : Int), vi (k1 : Int), vi (x1 : Int), vi (y1 : Int)]) v_X10_isGoodWithout rfl rfl hm__2 ml_X10_289 (c_X10_isGoodWithout hm__2 hn__2 hR hS hu__2 ht__2 (w := 2 ^ i) (k1 := k1) (x := x1) (y := y1) (by omega) hk1 hx1 hy1 hne hix) (by omega) (by omega) rfl (Nat.le_of_ble_eq_true rfl) rfl dX10_yields_50 (fun r50 h50 p50 => ?_)
            obtain ⟨z50, ⟨N50, nt50⟩, ⟨S50, nu50⟩, nfr50⟩ := p50
            have hm__10 : h50 m = some (mo m (fu s 0 0)) := (nfr50 _ (by omega)).trans hm__2
            have hn__10 : h50 (m + 2) = some (ai G 86 N) := (nfr50 _ (by omega)).trans hn__2
            have hu__10 : h50 (m + 11) = some (ai G 64 S50) := nu50
            have ht__10 : h50 (m + 8) = some (ai G 86 N50) := nt50
            have fr__10 : ∀ q : Nat, (q ≠ m ∧ q ≠ m + 8 ∧ q ≠ m + 11) → h50 q = h q := fun q hq => (nfr50 q (by omega)).trans (fr__2 q hq)
            have z50r := z50.r
            refine g_if_eq k (tgt := 61) (by omega) dX10_yields_53 (by decide) (fun c53 => ?_) (fun c53 => ?_)
            · skip
              refine g_iinc k (lv2 := [(0, .ref m), (1, vi (k1 : Int)), (2, vi (x1 : Int)), (3, vi (y1 : Int)), (4, vi ((i : Int) + 1))]) rfl (by decide) rfl rfl dX10_yields_61 ?_
              refine g_goto k (tgt := 33) dX10_yields_64 (by decide) ?_
              exact ih33 (i + 1) _ _ h50 hm__10 hn__10 hu__10 ht__10 fr__10 (by omega) (lt_s2 hN1 (z50.f (by omega))) (by omega)
            · skip
              refine g_iconst k dX10_yields_56 ?_
              refine g_iload k rfl dX10_yields_57 ?_
              refine g_ishl k (by omega) dX10_yields_59 ?_
              rw [show 1 * 2 ^ ((i : Int)).toNat = ((2 ^ i : Nat) : Int) from (by rw [Int.toNat_natCast]; simp)]
              rw [← hQQ]
              refine g_ireti k rfl dX10_yields_60 ?_
              rw [Int.toNat_natCast, Int.toNat_natCast, Int.toNat_natCast]
              exact ⟨⟨fun _ => YS_1 h28 h0 (by omega) (z50.t (by omega)) hN1, fun q => absurd hnd2 q⟩, ⟨_, ⟨hm__10, ((fr__10 (m + 1) (by omega)).trans cq1), ⟨N, hn__10, hR⟩, (by rw [fr__10 (m + 3) (by omega)]; exact cq3), (by rw [fr__10 (m + 4) (by omega)]; exact cq4), (by rw [fr__10 (m + 5) (by omega)]; exact cq5), (by rw [fr__10 (m + 6) (by omega)]; exact cq6), (by rw [fr__10 (m + 7) (by omega)]; exact cq7), ⟨_, ht__10⟩, (by rw [fr__10 (m + 9) (by omega)]; exact cq9), (by rw [fr__10 (m + 10) (by omega)]; exact cq10), ⟨_, hu__10⟩, (by rw [fr__10 (m + 12) (by omega)]; exact cq12), (by rw [fr__10 (m + 13) (by omega)]; exact cq13), (by rw [fr__10 (m + 14) (by omega)]; exact cq14), (by rw [fr__10 (m + 15) (by omega)]; exact cq15), (by rw [fr__10 (m + 16) (by omega)]; exact cq16), (by rw [fr__10 (m + 17) (by omega)]; exact cq17)⟩, hsc, rfl⟩, (fun q hq => fr__10 q (by omega))⟩
      exact K33 _ 0 _ _ h22 hm__1 hn__1 hu__1 ht__1 fr__1 (Nat.zero_le _) (fun j hj => absurd hj (Nat.not_lt_zero j)) (Nat.lt_succ_self _)
    · skip
      refine g_iconst k dX10_yields_28 ?_
      rw [← hQQ]
      refine g_ireti k rfl dX10_yields_29 ?_
      rw [Int.toNat_natCast, Int.toNat_natCast, Int.toNat_natCast]
      exact ⟨⟨fun _ => YS_0 (z22.t (by omega)), fun q => absurd hnd2 q⟩, ⟨_, ⟨hm__1, ((fr__1 (m + 1) (by omega)).trans cq1), ⟨N, hn__1, hR⟩, (by rw [fr__1 (m + 3) (by omega)]; exact cq3), (by rw [fr__1 (m + 4) (by omega)]; exact cq4), (by rw [fr__1 (m + 5) (by omega)]; exact cq5), (by rw [fr__1 (m + 6) (by omega)]; exact cq6), (by rw [fr__1 (m + 7) (by omega)]; exact cq7), ⟨_, ht__1⟩, (by rw [fr__1 (m + 9) (by omega)]; exact cq9), (by rw [fr__1 (m + 10) (by omega)]; exact cq10), ⟨_, hu__1⟩, (by rw [fr__1 (m + 12) (by omega)]; exact cq12), (by rw [fr__1 (m + 13) (by omega)]; exact cq13), (by rw [fr__1 (m + 14) (by omega)]; exact cq14), (by rw [fr__1 (m + 15) (by omega)]; exact cq15), (by rw [fr__1 (m + 16) (by omega)]; exact cq16), (by rw [fr__1 (m + 17) (by omega)]; exact cq17)⟩, hsc, rfl⟩, (fun q hq => fr__1 q (by omega))⟩
  · skip
    refine g_iconst k dX10_yields_15 ?_
    rw [← hQQ]
    refine g_ireti k rfl dX10_yields_16 ?_
    exact ⟨⟨fun q => absurd q (q9.f (by omega)), fun _ => rfl⟩, ⟨_, ⟨hm_, ((fr_ (m + 1) (by omega)).trans cq1), ⟨N, hn_, hR⟩, (by rw [fr_ (m + 3) (by omega)]; exact cq3), (by rw [fr_ (m + 4) (by omega)]; exact cq4), (by rw [fr_ (m + 5) (by omega)]; exact cq5), (by rw [fr_ (m + 6) (by omega)]; exact cq6), (by rw [fr_ (m + 7) (by omega)]; exact cq7), ⟨_, ht_⟩, (by rw [fr_ (m + 9) (by omega)]; exact cq9), (by rw [fr_ (m + 10) (by omega)]; exact cq10), ⟨_, hu_⟩, (by rw [fr_ (m + 12) (by omega)]; exact cq12), (by rw [fr_ (m + 13) (by omega)]; exact cq13), (by rw [fr_ (m + 14) (by omega)]; exact cq14), (by rw [fr_ (m + 15) (by omega)]; exact cq15), (by rw [fr_ (m + 16) (by omega)]; exact cq16), (by rw [fr_ (m + 17) (by omega)]; exact cq17)⟩, hsc, rfl⟩, (fun q hq => fr_ q (by omega))⟩

