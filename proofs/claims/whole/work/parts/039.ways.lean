/-! ways: 62 cells: object, two rows, the row of layers, 29 sums -/
def WC (G : Gx) (h : Hp) (a np : Nat) (F S : Nat → Int) : Prop := h a = some (ob 8 [vi (np : Int), .ref (a + 1), .ref (a + 2), .ref (a + 3)]) ∧ h (a + 1) = some (ai G 28 F) ∧ h (a + 2) = some (ai G 28 S) ∧ ∃ f : Nat → Option Nat, h (a + 3) = some (ar G 29 f) ∧ ∀ i, i < 29 → f i = some (a + 4 + 2 * i)
/-- the pairs -/
def Pq (it np : Nat) (F S : Nat → Int) (f s : Nat → Nat) : Prop := np ≤ 28 ∧ it ≤ 8 ∧ ∀ i, i < np → F i = f i ∧ S i = s i ∧ f i < it ∧ s i < it
def nxF (M : Nat → Int) (f s : Nat → Nat) : Nat → Nat → Nat
  | 0, p => p
  | k + 1, p => if pc8 (opt M (f p) (s p)) = 1 then nxF M f s k (p + 1) else p
def nxo (M : Nat → Int) (f s : Nat → Nat) (np p : Nat) : Nat := nxF M f s (np - p) p
theorem nxF_b {M : Nat → Int} {f s : Nat → Nat} : ∀ k p, p ≤ nxF M f s k p ∧ nxF M f s k p ≤ p + k
  | 0, p => ⟨Nat.le_refl p, Nat.le_refl p⟩
  | k + 1, p => by
    unfold nxF
    split
    · have := nxF_b (M := M) (f := f) (s := s) k (p + 1); omega
    · omega
theorem nxo_b {M : Nat → Int} {f s : Nat → Nat} {np p : Nat} (h : p ≤ np) : p ≤ nxo M f s np p ∧ nxo M f s np p ≤ np := by
  have := nxF_b (M := M) (f := f) (s := s) (np - p) p
  unfold nxo; omega
def jnB (M : Nat → Int) (it bit x y : Nat) : Nat → Int := if bit = 2 then jnF M it 0 y x else jnF M it (if bit = 1 then 0 else 1) x y
def folF (it np : Nat) (f s : Nat → Nat) : Nat → (Nat → Int) → Nat → Nat → Nat
  | 0, _, _, c => c + 1
  | k + 1, M, p, c =>
    if np ≤ nxo M f s np p then c + 1
    else if np ≤ nxo M f s np (nxo M f s np p + 1) then c + pc8 (opt M (f (nxo M f s np p)) (s (nxo M f s np p)))
    else
      let q := nxo M f s np p
      let o := opt M (f q) (s q)
      let c1 := if c ≤ 999 ∧ o % 2 = 1 then folF it np f s k (jnB M it 1 (f q) (s q)) (q + 1) c else c
      let c2 := if c1 ≤ 999 ∧ o / 2 % 2 = 1 then folF it np f s k (jnB M it 2 (f q) (s q)) (q + 1) c1 else c1
      if c2 ≤ 999 ∧ o / 4 % 2 = 1 then folF it np f s k (jnB M it 4 (f q) (s q)) (q + 1) c2 else c2
theorem opt_le (M : Nat → Int) (x y : Nat) : opt M x y ≤ 7 := by unfold opt; split <;> split <;> split <;> omega
theorem pc8_3 : ∀ n, n ≤ 7 → pc8 n ≤ 3 := by decide
theorem folF_le (it np : Nat) (f s : Nat → Nat) : ∀ k M p c, c ≤ 999 → folF it np f s k M p c ≤ 1002
  | 0, M, p, c, h => by unfold folF; omega
  | k + 1, M, p, c, h => by
    have ih := folF_le it np f s k
    have h3 := pc8_3 _ (opt_le M (f (nxo M f s np p)) (s (nxo M f s np p)))
    unfold folF
    split
    · omega
    · split
      · omega
      · dsimp only
        have g1 : (if c ≤ 999 ∧ opt M (f (nxo M f s np p)) (s (nxo M f s np p)) % 2 = 1 then folF it np f s k (jnB M it 1 (f (nxo M f s np p)) (s (nxo M f s np p))) (nxo M f s np p + 1) c else c) ≤ 1002 := by
          split
          · exact ih _ _ _ h
          · omega
        generalize (if c ≤ 999 ∧ opt M (f (nxo M f s np p)) (s (nxo M f s np p)) % 2 = 1 then folF it np f s k (jnB M it 1 (f (nxo M f s np p)) (s (nxo M f s np p))) (nxo M f s np p + 1) c else c) = c1 at g1 ⊢
        have g2 : (if c1 ≤ 999 ∧ opt M (f (nxo M f s np p)) (s (nxo M f s np p)) / 2 % 2 = 1 then folF it np f s k (jnB M it 2 (f (nxo M f s np p)) (s (nxo M f s np p))) (nxo M f s np p + 1) c1 else c1) ≤ 1002 := by
          split
          · rename_i q; exact ih _ _ _ q.1
          · omega
        generalize (if c1 ≤ 999 ∧ opt M (f (nxo M f s np p)) (s (nxo M f s np p)) / 2 % 2 = 1 then folF it np f s k (jnB M it 2 (f (nxo M f s np p)) (s (nxo M f s np p))) (nxo M f s np p + 1) c1 else c1) = c2 at g2 ⊢
        split
        · rename_i q; exact ih _ _ _ q.1
        · omega
set_option maxHeartbeats 600000 in
set_option maxRecDepth 100000 in
theorem c_X8_optionsOf {G : Gx} {h : Hp} {nx a np it : Nat} {F S : Nat → Int} {f s : Nat → Nat} (hW : WC G h a np F S) (hP : Pq it np F S f s) {l : Nat} (hl : l < 29) {M : Nat → Int} (hM : RA G h (a + 4 + 2 * l) it M) {B : Int} (hB : Bd B M) (hB2 : 0 ≤ B ∧ B ≤ 1000) {p : Nat} (hp : p < np) : Con G yX8_optionsOf cX8_optionsOf 3 (some .int) 3 0 0 [.ref a, vi (p : Int), vi (l : Int)] h nx (PI fun z h' => h' = h ∧ z = (opt M (f p) (s p) : Nat)) := by
  have hW0 := hW
  obtain ⟨ha, hf, hs, f9, hy, hf9⟩ := hW
  obtain ⟨hp28, h8, hpp⟩ := id hP
  have hx := hM.1
  have hb := hpp p hp
  refine Con.of v_X8_optionsOf.2.2.2.2.2.1 (Nat.le_of_ble_eq_true rfl) (lv := [(0, .ref a), (1, vi (p : Int)), (2, vi (l : Int))]) rfl (fun X k => ?_)
  generalize hQQ : QM G X nx 0 0 _ = QQ
  refine g_aload_n k rfl dX8_optionsOf_0 ?_
  refine g_get k 8 3 (C := RX8) (T := TX8) (N := 4) fl_X8_20 rfl wi_X8 (by decide) rfl ha rfl dX8_optionsOf_1 ?_
  refine g_iload_n k rfl dX8_optionsOf_4 ?_
  refine g_aldr k l hy (by omega) (by omega) (by decide) (b := a + 4 + 2 * l) (hf9 l hl) dX8_optionsOf_5 ?_
  refine g_aload_n k rfl dX8_optionsOf_6 ?_
  refine g_get k 8 1 (C := RX8) (T := TX8) (N := 4) fl_X8_9 rfl wi_X8 (by decide) rfl ha rfl dX8_optionsOf_7 ?_
  refine g_iload_n k rfl dX8_optionsOf_10 ?_
  refine g_iald k p hf (by omega) (by omega) (by decide) dX8_optionsOf_11 ?_
  rw [show F p = (f p : Int) from (hpp _ (by omega)).1]
  refine g_aload_n k rfl dX8_optionsOf_12 ?_
  refine g_get k 8 2 (C := RX8) (T := TX8) (N := 4) fl_X8_15 rfl wi_X8 (by decide) rfl ha rfl dX8_optionsOf_13 ?_
  refine g_iload_n k rfl dX8_optionsOf_16 ?_
  refine g_iald k p hs (by omega) (by omega) (by decide) dX8_optionsOf_17 ?_
  rw [show S p = (s p : Int) from (hpp _ (by omega)).2.1]
  refine g_cVi k 3 (As := [vi (f p : Int), vi (s p : Int)]) v_X3_options rfl rfl hx ml_X8_75 (c_X3_options hM hB (by omega) (x := f p) (y := s p) (by omega) (by omega)) (by omega) (by omega) rfl (Nat.le_of_ble_eq_true rfl) rfl dX8_optionsOf_18 (fun r18 h18 p18 => ?_)
  obtain ⟨eh18, p18⟩ := p18
  have eh18 := eh18.symm; subst eh18
  subst p18
  rw [← hQQ]
  refine g_ireti k rfl dX8_optionsOf_21 ?_
  exact ⟨rfl, rfl⟩

set_option maxHeartbeats 600000 in
set_option maxRecDepth 100000 in
theorem c_X8_nextOpen {G : Gx} {h : Hp} {nx a np it : Nat} {F S : Nat → Int} {f s : Nat → Nat} (hW : WC G h a np F S) (hP : Pq it np F S f s) {l : Nat} (hl : l < 29) {M : Nat → Int} (hM : RA G h (a + 4 + 2 * l) it M) {B : Int} (hB : Bd B M) (hB2 : 0 ≤ B ∧ B ≤ 1000) {p : Nat} (hp : p ≤ np) : Con G yX8_nextOpen cX8_nextOpen 4 (some .int) 4 0 0 [.ref a, vi (p : Int), vi (l : Int)] h nx (PI fun z h' => h' = h ∧ z = (nxo M f s np p : Nat)) := by
  have hW0 := hW
  obtain ⟨ha, hf, hs, f9, hy, hf9⟩ := hW
  obtain ⟨hp28, h8, hpp⟩ := id hP
  refine Con.of v_X8_nextOpen.2.2.2.2.2.1 (Nat.le_of_ble_eq_true rfl) (lv := [(0, .ref a), (1, vi (p : Int)), (2, vi (l : Int))]) rfl (fun X k => ?_)
  generalize hQQ : QM G X nx 0 0 _ = QQ
  refine g_iload_n k rfl dX8_nextOpen_0 ?_
  refine g_istore_n k (lv2 := [(0, .ref a), (1, vi (p : Int)), (2, vi (l : Int)), (3, vi (p : Int))]) (by decide) rfl rfl dX8_nextOpen_1 ?_
  have K2 : ∀ (nz : Nat) (v : Nat) (hv : v ≤ np) (hn : nxo M f s np v = nxo M f s np p) (hmz : np - v < nz), Go G X 4 QQ 0 0 nx 2 [(0, .ref a), (1, vi (p : Int)), (2, vi (l : Int)), (3, vi (v : Int))] [] h := by
    intro nz
    induction nz with
    | zero => intro v hv hn hmz; exact absurd hmz (Nat.not_lt_zero _)
    | succ nz ih2 =>
      intro v hv hn hmz
      refine g_iload_n k rfl dX8_nextOpen_2 ?_
      refine g_aload_n k rfl dX8_nextOpen_3 ?_
      refine g_get k 8 0 (C := RX8) (T := TX8) (N := 4) fl_X8_25 rfl wi_X8 (by decide) rfl ha rfl dX8_nextOpen_4 ?_
      refine g_icmp_ge k (tgt := 29) (by omega) (by omega) dX8_nextOpen_7 (by decide) (fun c7 => ?_) (fun c7 => ?_)
      · skip
        refine g_iload_n k rfl dX8_nextOpen_29 ?_
        rw [← hQQ]
        refine g_ireti k rfl dX8_nextOpen_30 ?_
        exact ⟨rfl, by rw [← hn]; unfold nxo; rw [show np - v = 0 by omega]; rw [show v = np by omega]; rfl⟩
      · skip
        have k1 := pc8_le (opt M (f v) (s v))
        refine g_aload_n k rfl dX8_nextOpen_10 ?_
        refine g_iload_n k rfl dX8_nextOpen_11 ?_
        refine g_iload_n k rfl dX8_nextOpen_12 ?_
        refine g_cVi k 8 (As := [vi (v : Int), vi (l : Int)]) v_X8_optionsOf rfl rfl ha ml_X8_54 (c_X8_optionsOf hW0 hP hl hM hB hB2 (p := v) (by omega)) (by omega) (by omega) rfl (Nat.le_of_ble_eq_true rfl) rfl dX8_nextOpen_13 (fun r13 h13 p13 => ?_)
        obtain ⟨eh13, p13⟩ := p13
        have eh13 := eh13.symm; subst eh13
        subst p13
        refine g_cSi k (As := [vi (opt M (f v) (s v) : Int)]) v_J6_bitCount_0f7a4 ml_X8_57 (c_J6_bitCount (n := opt M (f v) (s v)) (by have := opt_le M (f v) (s v); omega)) (by omega) (by omega) rfl (Nat.le_of_ble_eq_true rfl) rfl dX8_nextOpen_16 (fun r16 h16 p16 => ?_)
        obtain ⟨eh16, p16⟩ := p16
        have eh16 := eh16.symm; subst eh16
        subst p16
        refine g_iconst k dX8_nextOpen_19 ?_
        refine g_icmp_ne k (tgt := 29) (by omega) (by omega) dX8_nextOpen_20 (by decide) (fun c20 => ?_) (fun c20 => ?_)
        · skip
          refine g_iload_n k rfl dX8_nextOpen_29 ?_
          rw [← hQQ]
          refine g_ireti k rfl dX8_nextOpen_30 ?_
          exact ⟨rfl, by rw [← hn]; unfold nxo; rw [show np - v = np - (v + 1) + 1 by omega, nxF, if_neg (by omega)]⟩
        · skip
          refine g_iinc k (lv2 := [(0, .ref a), (1, vi (p : Int)), (2, vi (l : Int)), (3, vi ((v : Int) + 1))]) rfl (by decide) rfl rfl dX8_nextOpen_23 ?_
          refine g_goto k (tgt := 2) dX8_nextOpen_26 (by decide) ?_
          exact ih2 (v + 1) (by omega) (by rw [← hn]; unfold nxo; rw [show np - v = np - (v + 1) + 1 by omega, nxF, if_pos (by omega)]) (by omega)
  exact K2 _ p hp rfl (Nat.lt_succ_self _)

