/-! ways: 62 cells: object, two rows, the row of layers, 29 sums -/
def WC (G : Gx) (h : Hp) (a np : Nat) (F S : Nat → Int) : Prop := h a = some (ob 8 [vi (np : Int), .ref (a + 1), .ref (a + 2), .ref (a + 3)]) ∧ h (a + 1) = some (ai G 28 F) ∧ h (a + 2) = some (ai G 28 S) ∧ ∃ f : Nat → Option Nat, h (a + 3) = some (ar G 29 f) ∧ ∀ i, i < 29 → f i = some (a + 4 + 2 * i)
/-- the pairs -/
def Pq (it np : Nat) (F S : Nat → Int) (f s : Nat → Nat) : Prop := np ≤ 28 ∧ it ≤ 8 ∧ ∀ i, i < np → F i = f i ∧ S i = s i ∧ f i < it ∧ s i < it
def nxF (M : Nat → Int) (f s : Nat → Nat) : Nat → Nat → Nat
  | 0, p => p
  | k + 1, p => if pc8 (opt M (f p) (s p)) = 1 then nxF M f s k (p + 1) else p
def nxo (M : Nat → Int) (f s : Nat → Nat) (np p : Nat) : Nat := nxF M f s (np - p) p
theorem nxF_b {M : Nat → Int} {f s : Nat → Nat} : ∀ k p, p ≤ nxF M f s k p ∧ nxF M f s k p ≤ p + k
  | 0, p => ⟨Nat.le_refl p, Nat.le_refl p⟩
  | k + 1, p => by
    unfold nxF
    split
    · have := nxF_b (M := M) (f := f) (s := s) k (p + 1); omega
    · omega
theorem nxo_b {M : Nat → Int} {f s : Nat → Nat} {np p : Nat} (h : p ≤ np) : p ≤ nxo M f s np p ∧ nxo M f s np p ≤ np := by
  have := nxF_b (M := M) (f := f) (s := s) (np - p) p
  unfold nxo; omega
def jnB (M : Nat → Int) (it bit x y : Nat) : Nat → Int := if bit = 2 then jnF M it 0 y x else jnF M it (if bit = 1 then 0 else 1) x y
def folF (it np : Nat) (f s : Nat → Nat) : Nat → (Nat → Int) → Nat → Nat → Nat
  | 0, _, _, c => c + 1
  | k + 1, M, p, c =>
    if np ≤ nxo M f s np p then c + 1
    else if np ≤ nxo M f s np (nxo M f s np p + 1) then c + pc8 (opt M (f (nxo M f s np p)) (s (nxo M f s np p)))
    else
      let q := nxo M f s np p
      let o := opt M (f q) (s q)
      let c1 := if c ≤ 999 ∧ o / 2 ^ 0 % 2 = 1 then folF it np f s k (jnB M it (2 ^ 0) (f q) (s q)) (q + 1) c else c
      let c2 := if c1 ≤ 999 ∧ o / 2 ^ 1 % 2 = 1 then folF it np f s k (jnB M it (2 ^ 1) (f q) (s q)) (q + 1) c1 else c1
      if c2 ≤ 999 ∧ o / 2 ^ 2 % 2 = 1 then folF it np f s k (jnB M it (2 ^ 2) (f q) (s q)) (q + 1) c2 else c2
theorem opt_le (M : Nat → Int) (x y : Nat) : opt M x y ≤ 7 := by unfold opt; split <;> split <;> split <;> omega
theorem pc8_3 : ∀ n, n ≤ 7 → pc8 n ≤ 3 := by decide
theorem folF_le (it np : Nat) (f s : Nat → Nat) : ∀ k M p c, c ≤ 999 → folF it np f s k M p c ≤ 1002
  | 0, M, p, c, h => by unfold folF; omega
  | k + 1, M, p, c, h => by
    have ih := folF_le it np f s k
    have h3 := pc8_3 _ (opt_le M (f (nxo M f s np p)) (s (nxo M f s np p)))
    unfold folF
    split
    · omega
    · split
      · omega
      · dsimp only
        have g1 : (if c ≤ 999 ∧ opt M (f (nxo M f s np p)) (s (nxo M f s np p)) / 2 ^ 0 % 2 = 1 then folF it np f s k (jnB M it (2 ^ 0) (f (nxo M f s np p)) (s (nxo M f s np p))) (nxo M f s np p + 1) c else c) ≤ 1002 := by
          split
          · exact ih _ _ _ h
          · omega
        generalize (if c ≤ 999 ∧ opt M (f (nxo M f s np p)) (s (nxo M f s np p)) / 2 ^ 0 % 2 = 1 then folF it np f s k (jnB M it (2 ^ 0) (f (nxo M f s np p)) (s (nxo M f s np p))) (nxo M f s np p + 1) c else c) = c1 at g1 ⊢
        have g2 : (if c1 ≤ 999 ∧ opt M (f (nxo M f s np p)) (s (nxo M f s np p)) / 2 ^ 1 % 2 = 1 then folF it np f s k (jnB M it (2 ^ 1) (f (nxo M f s np p)) (s (nxo M f s np p))) (nxo M f s np p + 1) c1 else c1) ≤ 1002 := by
          split
          · rename_i q; exact ih _ _ _ q.1
          · omega
        generalize (if c1 ≤ 999 ∧ opt M (f (nxo M f s np p)) (s (nxo M f s np p)) / 2 ^ 1 % 2 = 1 then folF it np f s k (jnB M it (2 ^ 1) (f (nxo M f s np p)) (s (nxo M f s np p))) (nxo M f s np p + 1) c1 else c1) = c2 at g2 ⊢
        split
        · rename_i q; exact ih _ _ _ q.1
        · omega
set_option maxHeartbeats 600000 in
set_option maxRecDepth 100000 in
theorem c_X8_optionsOf {G : Gx} {h : Hp} {nx a np it : Nat} {F S : Nat → Int} {f s : Nat → Nat} (hW : WC G h a np F S) (hP : Pq it np F S f s) {l : Nat} (hl : l < 29) {M : Nat → Int} (hM : RA G h (a + 4 + 2 * l) it M) {B : Int} (hB : Bd B M) (hB2 : 0 ≤ B ∧ B ≤ 1000) {p : Nat} (hp : p < np) : Con G yX8_optionsOf cX8_optionsOf 3 (some .int) 3 0 0 [.ref a, vi (p : Int), vi (l : Int)] h nx (PI fun z h' => h' = h ∧ z = (opt M (f p) (s p) : Nat)) := by
  have hW0 := hW
  obtain ⟨ha, hf, hs, f9, hy, hf9⟩ := hW
  obtain ⟨hp28, h8, hpp⟩ := id hP
  have hx := hM.1
  have hb := hpp p hp
  refine Con.of v_X8_optionsOf.2.2.2.2.2.1 (Nat.le_of_ble_eq_true rfl) (lv := [(0, .ref a), (1, vi (p : Int)), (2, vi (l : Int))]) rfl (fun X k => ?_)
  generalize hQQ : QM G X nx 0 0 _ = QQ
  refine g_aload_n k rfl dX8_optionsOf_0 ?_
  refine g_get k 8 3 (C := RX8) (T := TX8) (N := 4) fl_X8_20 rfl wi_X8 (by decide) rfl ha rfl dX8_optionsOf_1 ?_
  refine g_iload_n k rfl dX8_optionsOf_4 ?_
  refine g_aldr k l hy (by omega) (by omega) (by decide) (b := a + 4 + 2 * l) (hf9 l hl) dX8_optionsOf_5 ?_
  refine g_aload_n k rfl dX8_optionsOf_6 ?_
  refine g_get k 8 1 (C := RX8) (T := TX8) (N := 4) fl_X8_9 rfl wi_X8 (by decide) rfl ha rfl dX8_optionsOf_7 ?_
  refine g_iload_n k rfl dX8_optionsOf_10 ?_
  refine g_iald k p hf (by omega) (by omega) (by decide) dX8_optionsOf_11 ?_
  rw [show F p = (f p : Int) from (hpp _ (by omega)).1]
  refine g_aload_n k rfl dX8_optionsOf_12 ?_
  refine g_get k 8 2 (C := RX8) (T := TX8) (N := 4) fl_X8_15 rfl wi_X8 (by decide) rfl ha rfl dX8_optionsOf_13 ?_
  refine g_iload_n k rfl dX8_optionsOf_16 ?_
  refine g_iald k p hs (by omega) (by omega) (by decide) dX8_optionsOf_17 ?_
  rw [show S p = (s p : Int) from (hpp _ (by omega)).2.1]
  refine g_cVi k 3 (As := [vi (f p : Int), vi (s p : Int)]) v_X3_options rfl rfl hx ml_X8_75 (c_X3_options hM hB (by omega) (x := f p) (y := s p) (by omega) (by omega)) (by omega) (by omega) rfl (Nat.le_of_ble_eq_true rfl) rfl dX8_optionsOf_18 (fun r18 h18 p18 => ?_)
  obtain ⟨eh18, p18⟩ := p18
  have eh18 := eh18.symm; subst eh18
  subst p18
  rw [← hQQ]
  refine g_ireti k rfl dX8_optionsOf_21 ?_
  exact ⟨rfl, rfl⟩

set_option maxHeartbeats 600000 in
set_option maxRecDepth 100000 in
theorem c_X8_nextOpen {G : Gx} {h : Hp} {nx a np it : Nat} {F S : Nat → Int} {f s : Nat → Nat} (hW : WC G h a np F S) (hP : Pq it np F S f s) {l : Nat} (hl : l < 29) {M : Nat → Int} (hM : RA G h (a + 4 + 2 * l) it M) {B : Int} (hB : Bd B M) (hB2 : 0 ≤ B ∧ B ≤ 1000) {p : Nat} (hp : p ≤ np) : Con G yX8_nextOpen cX8_nextOpen 4 (some .int) 4 0 0 [.ref a, vi (p : Int), vi (l : Int)] h nx (PI fun z h' => h' = h ∧ z = (nxo M f s np p : Nat)) := by
  have hW0 := hW
  obtain ⟨ha, hf, hs, f9, hy, hf9⟩ := hW
  obtain ⟨hp28, h8, hpp⟩ := id hP
  refine Con.of v_X8_nextOpen.2.2.2.2.2.1 (Nat.le_of_ble_eq_true rfl) (lv := [(0, .ref a), (1, vi (p : Int)), (2, vi (l : Int))]) rfl (fun X k => ?_)
  generalize hQQ : QM G X nx 0 0 _ = QQ
  refine g_iload_n k rfl dX8_nextOpen_0 ?_
  refine g_istore_n k (lv2 := [(0, .ref a), (1, vi (p : Int)), (2, vi (l : Int)), (3, vi (p : Int))]) (by decide) rfl rfl dX8_nextOpen_1 ?_
  have K2 : ∀ (nz : Nat) (v : Nat) (hv : v ≤ np) (hn : nxo M f s np v = nxo M f s np p) (hmz : np - v < nz), Go G X 4 QQ 0 0 nx 2 [(0, .ref a), (1, vi (p : Int)), (2, vi (l : Int)), (3, vi (v : Int))] [] h := by
    intro nz
    induction nz with
    | zero => intro v hv hn hmz; exact absurd hmz (Nat.not_lt_zero _)
    | succ nz ih2 =>
      intro v hv hn hmz
      refine g_iload_n k rfl dX8_nextOpen_2 ?_
      refine g_aload_n k rfl dX8_nextOpen_3 ?_
      refine g_get k 8 0 (C := RX8) (T := TX8) (N := 4) fl_X8_25 rfl wi_X8 (by decide) rfl ha rfl dX8_nextOpen_4 ?_
      refine g_icmp_ge k (tgt := 29) (by omega) (by omega) dX8_nextOpen_7 (by decide) (fun c7 => ?_) (fun c7 => ?_)
      · skip
        refine g_iload_n k rfl dX8_nextOpen_29 ?_
        rw [← hQQ]
        refine g_ireti k rfl dX8_nextOpen_30 ?_
        exact ⟨rfl, by rw [← hn]; unfold nxo; rw [show np - v = 0 by omega]; rw [show v = np by omega]; rfl⟩
      · skip
        have k1 := pc8_le (opt M (f v) (s v))
        refine g_aload_n k rfl dX8_nextOpen_10 ?_
        refine g_iload_n k rfl dX8_nextOpen_11 ?_
        refine g_iload_n k rfl dX8_nextOpen_12 ?_
        refine g_cVi k 8 (As := [vi (v : Int), vi (l : Int)]) v_X8_optionsOf rfl rfl ha ml_X8_54 (c_X8_optionsOf hW0 hP hl hM hB hB2 (p := v) (by omega)) (by omega) (by omega) rfl (Nat.le_of_ble_eq_true rfl) rfl dX8_nextOpen_13 (fun r13 h13 p13 => ?_)
        obtain ⟨eh13, p13⟩ := p13
        have eh13 := eh13.symm; subst eh13
        subst p13
        refine g_cSi k (As := [vi (opt M (f v) (s v) : Int)]) v_J6_bitCount_0f7a4 ml_X8_57 (c_J6_bitCount (n := opt M (f v) (s v)) (by have := opt_le M (f v) (s v); omega)) (by omega) (by omega) rfl (Nat.le_of_ble_eq_true rfl) rfl dX8_nextOpen_16 (fun r16 h16 p16 => ?_)
        obtain ⟨eh16, p16⟩ := p16
        have eh16 := eh16.symm; subst eh16
        subst p16
        refine g_iconst k dX8_nextOpen_19 ?_
        refine g_icmp_ne k (tgt := 29) (by omega) (by omega) dX8_nextOpen_20 (by decide) (fun c20 => ?_) (fun c20 => ?_)
        · skip
          refine g_iload_n k rfl dX8_nextOpen_29 ?_
          rw [← hQQ]
          refine g_ireti k rfl dX8_nextOpen_30 ?_
          exact ⟨rfl, by rw [← hn]; unfold nxo; rw [show np - v = np - (v + 1) + 1 by omega, nxF, if_neg (by omega)]⟩
        · skip
          refine g_iinc k (lv2 := [(0, .ref a), (1, vi (p : Int)), (2, vi (l : Int)), (3, vi ((v : Int) + 1))]) rfl (by decide) rfl rfl dX8_nextOpen_23 ?_
          refine g_goto k (tgt := 2) dX8_nextOpen_26 (by decide) ?_
          exact ih2 (v + 1) (by omega) (by rw [← hn]; unfold nxo; rw [show np - v = np - (v + 1) + 1 by omega, nxF, if_pos (by omega)]) (by omega)
  exact K2 _ p hp rfl (Nat.lt_succ_self _)

def LyA (G : Gx) (h : Hp) (a : Nat) : Prop := ∀ i, i < 29 → ∃ (it' : Nat) (M' : Nat → Int), RA G h (a + 4 + 2 * i) it' M'
theorem RA.keep {G : Gx} {h h' : Hp} {b it : Nat} {M : Nat → Int} (hM : RA G h b it M) (fr : ∀ q : Nat, b ≤ q → q ≤ b + 1 → h' q = h q) : RA G h' b it M := ⟨(fr _ (by omega) (by omega)).trans hM.1, (fr _ (by omega) (by omega)).trans hM.2⟩
theorem WC.keep {G : Gx} {h h' : Hp} {a np : Nat} {F S : Nat → Int} (hW : WC G h a np F S) (fr : ∀ q : Nat, a ≤ q → q ≤ a + 3 → h' q = h q) : WC G h' a np F S := by
  obtain ⟨h1, h2, h3, f, h4, h5⟩ := hW
  exact ⟨(fr _ (by omega) (by omega)).trans h1, (fr _ (by omega) (by omega)).trans h2, (fr _ (by omega) (by omega)).trans h3, f, (fr _ (by omega) (by omega)).trans h4, h5⟩
/-- sums that stay small as facts that may be told join them -/
def GMo (it np : Nat) (f s : Nat → Nat) (GM : (Nat → Int) → Prop) : Prop := (∀ M, GM M → Bd 100 M) ∧ ∀ M i j, GM M → i < np → j < 3 → opt M (f i) (s i) / 2 ^ j % 2 = 1 → GM (jnB M it (2 ^ j) (f i) (s i))
def FolC (G : Gx) (a it np : Nat) (f s : Nat → Nat) (F S : Nat → Int) (GM : (Nat → Int) → Prop) (k : Nat) : Prop := ∀ (h : Hp) (nx l p c : Nat) (M : Nat → Int), l + k = 28 → WC G h a np F S → LyA G h a → RA G h (a + 4 + 2 * l) it M → GM M → p ≤ np → c ≤ 999 → Con G yX8_follow cX8_follow 8 (some .int) (6 + 2 * k) 0 0 [.ref a, vi (p : Int), vi (l : Int), vi (c : Int)] h nx (PI fun z h' => z = (folF it np f s k M p c : Nat) ∧ LyA G h' a ∧ ∀ q : Nat, (q < a + 4 + 2 * (l + 1) ∨ a + 61 < q) → h' q = h q)
def BrC (G : Gx) (a it np : Nat) (f s : Nat → Nat) (F S : Nat → Int) (GM : (Nat → Int) → Prop) (k : Nat) : Prop := ∀ (h : Hp) (nx l p c j : Nat) (M : Nat → Int), l + (k + 1) = 28 → WC G h a np F S → LyA G h a → RA G h (a + 4 + 2 * l) it M → GM M → p < np → j < 3 → opt M (f p) (s p) / 2 ^ j % 2 = 1 → c ≤ 999 → Con G yX8_branch cX8_branch 6 (some .int) (7 + 2 * k) 0 0 [.ref a, vi (p : Int), vi (l : Int), vi ((2 ^ j : Nat) : Int), vi (c : Int)] h nx (PI fun z h' => z = (folF it np f s k (jnB M it (2 ^ j) (f p) (s p)) (p + 1) c : Nat) ∧ LyA G h' a ∧ ∀ q : Nat, (q < a + 4 + 2 * (l + 1) ∨ a + 61 < q) → h' q = h q)
def csF (it np : Nat) (f s : Nat → Nat) (k : Nat) (M : Nat → Int) (q c : Nat) : Nat → Nat
  | 0 => c
  | j + 1 => if csF it np f s k M q c j ≤ 999 ∧ opt M (f q) (s q) / 2 ^ j % 2 = 1 then folF it np f s k (jnB M it (2 ^ j) (f q) (s q)) (q + 1) (csF it np f s k M q c j) else csF it np f s k M q c j
theorem csF_le {it np : Nat} {f s : Nat → Nat} {k : Nat} {M : Nat → Int} {q c : Nat} (h : c ≤ 999) : ∀ j, csF it np f s k M q c j ≤ 1002
  | 0 => by unfold csF; omega
  | j + 1 => by
    have := csF_le (it := it) (np := np) (f := f) (s := s) (k := k) (M := M) (q := q) h j
    unfold csF
    split
    · rename_i z; exact folF_le _ _ _ _ _ _ _ _ z.1
    · exact this
theorem csF_stop {it np : Nat} {f s : Nat → Nat} {k : Nat} {M : Nat → Int} {q c : Nat} : ∀ d j, 999 < csF it np f s k M q c j → csF it np f s k M q c (j + d) = csF it np f s k M q c j
  | 0, j, _ => rfl
  | d + 1, j, h => by
    have e := csF_stop (it := it) (np := np) (f := f) (s := s) (k := k) (M := M) (q := q) (c := c) d j h
    rw [show j + (d + 1) = j + d + 1 by omega, csF, if_neg (by omega)]
    exact e
theorem folF_cs {it np : Nat} {f s : Nat → Nat} {k : Nat} {M : Nat → Int} {p c : Nat} (h1 : ¬ np ≤ nxo M f s np p) (h2 : ¬ np ≤ nxo M f s np (nxo M f s np p + 1)) : folF it np f s (k + 1) M p c = csF it np f s k M (nxo M f s np p) c 3 := by
  rw [folF, if_neg h1, if_neg h2]
  rfl
theorem bitO : ∀ o, o < 8 → ∀ j, j < 3 → (((o &&& 2 ^ j : Nat) : Int) = 0 ↔ ¬ o / 2 ^ j % 2 = 1) := by decide
theorem pw3 : ∀ j, j < 4 → 2 ^ j = (if j = 0 then 1 else if j = 1 then 2 else if j = 2 then 4 else 8) := by decide
theorem b_X8_branch {G : Gx} {a np it : Nat} {F S : Nat → Int} {f s : Nat → Nat} {GM : (Nat → Int) → Prop} (hP : Pq it np F S f s) (hG : GMo it np f s GM) {kf : Nat} (hfo : FolC G a it np f s F S GM kf) : BrC G a it np f s F S GM kf := by
  intro h nx l p c j M hlk hW hLy hM hGM hp hj ho hc
  have hjM := hG.2 M p j hGM hp hj ho
  have hBM := hG.1 M hGM
  have hW0 := hW
  obtain ⟨ha, hf, hs, f9, hy, hf9⟩ := hW
  obtain ⟨hp28, h8, hpp⟩ := id hP
  have hx := hM.1
  obtain ⟨it7, M7, hM7⟩ := hLy (l + 1) (by omega)
  have hz := hM7.1
  have hb := hpp p hp
  have ej := pw8 (n := j) (by omega)
  refine Con.of v_X8_branch.2.2.2.2.2.1 (Nat.le_of_ble_eq_true rfl) (lv := [(0, .ref a), (1, vi (p : Int)), (2, vi (l : Int)), (3, vi ((2 ^ j : Nat) : Int)), (4, vi (c : Int))]) rfl (fun X k => ?_)
  generalize hQQ : QM G X nx 0 0 _ = QQ
  have fr0 : ∀ q : Nat, (q < a + 4 + 2 * (l + 1) ∨ a + 61 < q) → h q = h q := fun _ _ => rfl
  refine g_aload_n k rfl dX8_branch_0 ?_
  refine g_get k 8 3 (C := RX8) (T := TX8) (N := 4) fl_X8_20 rfl wi_X8 (by decide) rfl ha rfl dX8_branch_1 ?_
  refine g_iload_n k rfl dX8_branch_4 ?_
  refine g_iconst k dX8_branch_5 ?_
  refine g_iadd k dX8_branch_6 ?_
  refine g_aldr k (l + 1) hy (by omega) (by omega) (by decide) (b := a + 4 + 2 * (l + 1)) (hf9 (l + 1) (by omega)) dX8_branch_7 ?_
  refine g_astore k (lv2 := [(0, .ref a), (1, vi (p : Int)), (2, vi (l : Int)), (3, vi ((2 ^ j : Nat) : Int)), (4, vi (c : Int)), (5, .ref (a + 4 + 2 * (l + 1)))]) (by decide) rfl rfl dX8_branch_8 ?_
  refine g_aload k rfl dX8_branch_10 ?_
  refine g_aload_n k rfl dX8_branch_12 ?_
  refine g_get k 8 3 (C := RX8) (T := TX8) (N := 4) fl_X8_20 rfl wi_X8 (by decide) rfl ha rfl dX8_branch_13 ?_
  refine g_iload_n k rfl dX8_branch_16 ?_
  refine g_aldr k l hy (by omega) (by omega) (by decide) (b := a + 4 + 2 * l) (hf9 l (by omega)) dX8_branch_17 ?_
  refine g_cVv k 3 (As := [.ref (a + 4 + 2 * l)]) v_X3_copyFrom rfl rfl hz ml_X8_67 (c_X3_copyFrom hM7 hM (by omega)) (by omega) (by omega) rfl (Nat.le_of_ble_eq_true rfl) rfl dX8_branch_18 (fun h18 p18 => ?_)
  obtain ⟨nM, nfr⟩ := p18
  have ha_ : h18 a = some (ob 8 [vi (np : Int), .ref (a + 1), .ref (a + 2), .ref (a + 3)]) := (nfr _ (by omega)).trans ha
  have hf_ : h18 (a + 1) = some (ai G 28 F) := (nfr _ (by omega)).trans hf
  have hs_ : h18 (a + 2) = some (ai G 28 S) := (nfr _ (by omega)).trans hs
  have hy_ : h18 (a + 3) = some (ar G 29 f9) := (nfr _ (by omega)).trans hy
  have hx_ : h18 (a + 4 + 2 * l) = some (ob 3 [vi (it : Int), .ref (a + 4 + 2 * l + 1)]) := (nfr _ (by omega)).trans hx
  have hz_ : h18 (a + 4 + 2 * (l + 1)) = some (ob 3 [vi (it : Int), .ref (a + 4 + 2 * (l + 1) + 1)]) := nM.1
  have fr_ : ∀ q : Nat, (q < a + 4 + 2 * (l + 1) ∨ a + 61 < q) → h18 q = h q := fun q hq => (nfr q (by omega)).trans (fr0 q hq)
  have K74 : ∀ (h74 : Hp) (ha__1 : h74 a = some (ob 8 [vi (np : Int), .ref (a + 1), .ref (a + 2), .ref (a + 3)])) (hf__1 : h74 (a + 1) = some (ai G 28 F)) (hs__1 : h74 (a + 2) = some (ai G 28 S)) (hy__1 : h74 (a + 3) = some (ar G 29 f9)) (hx__1 : h74 (a + 4 + 2 * l) = some (ob 3 [vi (it : Int), .ref (a + 4 + 2 * l + 1)])) (hz__1 : h74 (a + 4 + 2 * (l + 1)) = some (ob 3 [vi (it : Int), .ref (a + 4 + 2 * (l + 1) + 1)])) (fr__1 : ∀ q : Nat, (q < a + 4 + 2 * (l + 1) ∨ a + 61 < q) → h74 q = h q) (hM9 : RA G h74 (a + 4 + 2 * (l + 1)) it (jnB M it (2 ^ j) (f p) (s p))) (hLy7 : LyA G h74 a), Go G X 6 QQ 0 0 nx 74 [(0, .ref a), (1, vi (p : Int)), (2, vi (l : Int)), (3, vi ((2 ^ j : Nat) : Int)), (4, vi (c : Int)), (5, .ref (a + 4 + 2 * (l + 1)))] [] h74 := by
    intro h74 ha__1 hf__1 hs__1 hy__1 hx__1 hz__1 fr__1 hM9 hLy7
    refine g_aload_n k rfl dX8_branch_74 ?_
    refine g_iload_n k rfl dX8_branch_75 ?_
    refine g_iconst k dX8_branch_76 ?_
    refine g_iadd k dX8_branch_77 ?_
    refine g_iload_n k rfl dX8_branch_78 ?_
    refine g_iconst k dX8_branch_79 ?_
    refine g_iadd k dX8_branch_80 ?_
    refine g_iload k rfl dX8_branch_81 ?_
    refine g_cVi k 8 (As := [vi ((p : Int) + 1), vi ((l : Int) + 1), vi (c : Int)]) v_X8_follow rfl rfl ha__1 ml_X8_42 (hfo h74 nx (l + 1) (p + 1) c (jnB M it (2 ^ j) (f p) (s p)) (by omega) (hW0.keep (fun q g1 g2 => fr__1 q (by omega))) hLy7 hM9 hjM (by omega) hc) (by omega) (by omega) rfl (Nat.le_of_ble_eq_true rfl) rfl dX8_branch_83 (fun r83 h83 p83 => ?_)
    obtain ⟨p83e, nL, nfr3⟩ := p83
    subst p83e
    have fr__2 : ∀ q : Nat, (q < a + 4 + 2 * (l + 1) ∨ a + 61 < q) → h83 q = h q := fun q hq => (nfr3 q (by omega)).trans (fr__1 q hq)
    rw [← hQQ]
    refine g_ireti k rfl dX8_branch_86 ?_
    exact ⟨rfl, nL, fr__2⟩
  refine g_iload_n k rfl dX8_branch_21 ?_
  refine g_iconst k dX8_branch_22 ?_
  refine g_icmp_ne k (tgt := 47) (by omega) (by omega) dX8_branch_23 (by decide) (fun c23 => ?_) (fun c23 => ?_)
  · skip
    refine g_aload k rfl dX8_branch_47 ?_
    have K59 : ∀ (kx : Nat) (hkx : kx = (if 2 ^ j = 1 then 0 else 1) ∧ kx ≤ 1), Go G X 6 QQ 0 0 nx 59 [(0, .ref a), (1, vi (p : Int)), (2, vi (l : Int)), (3, vi ((2 ^ j : Nat) : Int)), (4, vi (c : Int)), (5, .ref (a + 4 + 2 * (l + 1)))] [vi (kx : Int), .ref (a + 4 + 2 * (l + 1))] h18 := by
      intro kx hkx
      refine g_aload_n k rfl dX8_branch_59 ?_
      refine g_get k 8 1 (C := RX8) (T := TX8) (N := 4) fl_X8_9 rfl wi_X8 (by decide) rfl ha_ rfl dX8_branch_60 ?_
      refine g_iload_n k rfl dX8_branch_63 ?_
      refine g_iald k p hf_ (by omega) (by omega) (by decide) dX8_branch_64 ?_
      rw [show F p = (f p : Int) from (hpp _ (by omega)).1]
      refine g_aload_n k rfl dX8_branch_65 ?_
      refine g_get k 8 2 (C := RX8) (T := TX8) (N := 4) fl_X8_15 rfl wi_X8 (by decide) rfl ha_ rfl dX8_branch_66 ?_
      refine g_iload_n k rfl dX8_branch_69 ?_
      refine g_iald k p hs_ (by omega) (by omega) (by decide) dX8_branch_70 ?_
      rw [show S p = (s p : Int) from (hpp _ (by omega)).2.1]
      refine g_cVv k 3 (As := [vi (kx : Int), vi (f p : Int), vi (s p : Int)]) v_X3_join rfl rfl hz_ ml_X8_71 (c_X3_join nM h8 hBM (by omega) (k1 := kx) (x := f p) (y := s p) (by omega) (by omega) (by omega)) (by omega) (by omega) rfl (Nat.le_of_ble_eq_true rfl) rfl dX8_branch_71 (fun h71 p71 => ?_)
      obtain ⟨nM2, nfr2⟩ := p71
      have ha__3 : h71 a = some (ob 8 [vi (np : Int), .ref (a + 1), .ref (a + 2), .ref (a + 3)]) := (nfr2 _ (by omega)).trans ha_
      have hf__3 : h71 (a + 1) = some (ai G 28 F) := (nfr2 _ (by omega)).trans hf_
      have hs__3 : h71 (a + 2) = some (ai G 28 S) := (nfr2 _ (by omega)).trans hs_
      have hy__3 : h71 (a + 3) = some (ar G 29 f9) := (nfr2 _ (by omega)).trans hy_
      have hx__3 : h71 (a + 4 + 2 * l) = some (ob 3 [vi (it : Int), .ref (a + 4 + 2 * l + 1)]) := (nfr2 _ (by omega)).trans hx_
      have hz__3 : h71 (a + 4 + 2 * (l + 1)) = some (ob 3 [vi (it : Int), .ref (a + 4 + 2 * (l + 1) + 1)]) := nM2.1
      have fr__3 : ∀ q : Nat, (q < a + 4 + 2 * (l + 1) ∨ a + 61 < q) → h71 q = h q := fun q hq => (nfr2 q (by omega)).trans (fr_ q hq)
      exact K74 h71 ha__3 hf__3 hs__3 hy__3 hx__3 hz__3 fr__3 (by unfold jnB; rw [if_neg (by omega), ← hkx.1]; exact nM2) (fun i hi => by by_cases e : i = l + 1; (subst e; exact ⟨_, _, nM2⟩); (obtain ⟨i8, M8, h88⟩ := hLy i hi; exact ⟨i8, M8, h88.keep (fun q g1 g2 => (nfr2 q (by omega)).trans (nfr q (by omega)))⟩))
    refine g_iload_n k rfl dX8_branch_49 ?_
    refine g_iconst k dX8_branch_50 ?_
    refine g_icmp_ne k (tgt := 58) (by omega) (by omega) dX8_branch_51 (by decide) (fun c51 => ?_) (fun c51 => ?_)
    · skip
      refine g_iconst k dX8_branch_58 ?_
      exact K59 1 ⟨by rw [if_neg (by omega)], by omega⟩
    · skip
      refine g_iconst k dX8_branch_54 ?_
      refine g_goto k (tgt := 59) dX8_branch_55 (by decide) ?_
      exact K59 0 ⟨by rw [if_pos (by omega)], by omega⟩
  · skip
    refine g_aload k rfl dX8_branch_26 ?_
    refine g_iconst k dX8_branch_28 ?_
    refine g_aload_n k rfl dX8_branch_29 ?_
    refine g_get k 8 2 (C := RX8) (T := TX8) (N := 4) fl_X8_15 rfl wi_X8 (by decide) rfl ha_ rfl dX8_branch_30 ?_
    refine g_iload_n k rfl dX8_branch_33 ?_
    refine g_iald k p hs_ (by omega) (by omega) (by decide) dX8_branch_34 ?_
    rw [show S p = (s p : Int) from (hpp _ (by omega)).2.1]
    refine g_aload_n k rfl dX8_branch_35 ?_
    refine g_get k 8 1 (C := RX8) (T := TX8) (N := 4) fl_X8_9 rfl wi_X8 (by decide) rfl ha_ rfl dX8_branch_36 ?_
    refine g_iload_n k rfl dX8_branch_39 ?_
    refine g_iald k p hf_ (by omega) (by omega) (by decide) dX8_branch_40 ?_
    rw [show F p = (f p : Int) from (hpp _ (by omega)).1]
    refine g_cVv k 3 (As := [vi 0, vi (s p : Int), vi (f p : Int)]) v_X3_join rfl rfl hz_ ml_X8_71 (c_X3_join nM h8 hBM (by omega) (k1 := 0) (x := s p) (y := f p) (by omega) (by omega) (by omega)) (by omega) (by omega) rfl (Nat.le_of_ble_eq_true rfl) rfl dX8_branch_41 (fun h41 p41 => ?_)
    obtain ⟨nM2, nfr2⟩ := p41
    have ha__4 : h41 a = some (ob 8 [vi (np : Int), .ref (a + 1), .ref (a + 2), .ref (a + 3)]) := (nfr2 _ (by omega)).trans ha_
    have hf__4 : h41 (a + 1) = some (ai G 28 F) := (nfr2 _ (by omega)).trans hf_
    have hs__4 : h41 (a + 2) = some (ai G 28 S) := (nfr2 _ (by omega)).trans hs_
    have hy__4 : h41 (a + 3) = some (ar G 29 f9) := (nfr2 _ (by omega)).trans hy_
    have hx__4 : h41 (a + 4 + 2 * l) = some (ob 3 [vi (it : Int), .ref (a + 4 + 2 * l + 1)]) := (nfr2 _ (by omega)).trans hx_
    have hz__4 : h41 (a + 4 + 2 * (l + 1)) = some (ob 3 [vi (it : Int), .ref (a + 4 + 2 * (l + 1) + 1)]) := nM2.1
    have fr__4 : ∀ q : Nat, (q < a + 4 + 2 * (l + 1) ∨ a + 61 < q) → h41 q = h q := fun q hq => (nfr2 q (by omega)).trans (fr_ q hq)
    refine g_goto k (tgt := 74) dX8_branch_44 (by decide) ?_
    exact K74 h41 ha__4 hf__4 hs__4 hy__4 hx__4 hz__4 fr__4 (by unfold jnB; rw [if_pos (by omega)]; exact nM2) (fun i hi => by by_cases e : i = l + 1; (subst e; exact ⟨_, _, nM2⟩); (obtain ⟨i8, M8, h88⟩ := hLy i hi; exact ⟨i8, M8, h88.keep (fun q g1 g2 => (nfr2 q (by omega)).trans (nfr q (by omega)))⟩))

theorem b_X8_follow0 {G : Gx} {a np it : Nat} {F S : Nat → Int} {f s : Nat → Nat} {GM : (Nat → Int) → Prop} (hP : Pq it np F S f s) (hG : GMo it np f s GM) : FolC G a it np f s F S GM 0 := by
  intro h nx l p c M hlk hW hLy hM hGM hp hc
  have hW0 := hW
  obtain ⟨ha, hf, hs, f9, hy, hf9⟩ := hW
  obtain ⟨hp28, h8, hpp⟩ := id hP
  have hBM := hG.1 M hGM
  have hq := nxo_b (M := M) (f := f) (s := s) hp
  have ho7 := opt_le M (f (nxo M f s np p)) (s (nxo M f s np p))
  have hpc := pc8_3 _ ho7
  refine Con.of v_X8_follow.2.2.2.2.2.1 (Nat.le_of_ble_eq_true rfl) (lv := [(0, .ref a), (1, vi (p : Int)), (2, vi (l : Int)), (3, vi (c : Int))]) rfl (fun X k => ?_)
  generalize hQQ : QM G X nx 0 0 _ = QQ
  have fr0 : ∀ q : Nat, (q < a + 4 + 2 * (l + 1) ∨ a + 61 < q) → h q = h q := fun _ _ => rfl
  refine g_aload_n k rfl dX8_follow_0 ?_
  refine g_iload_n k rfl dX8_follow_1 ?_
  refine g_iload_n k rfl dX8_follow_2 ?_
  refine g_cVi k 8 (As := [vi (p : Int), vi (l : Int)]) v_X8_nextOpen rfl rfl ha ml_X8_51 (c_X8_nextOpen hW0 hP (by omega) hM hBM (by omega) hp) (by omega) (by omega) rfl (Nat.le_of_ble_eq_true rfl) rfl dX8_follow_3 (fun r3 h3 p3 => ?_)
  obtain ⟨eh3, p3⟩ := p3
  have eh3 := eh3.symm; subst eh3
  subst p3
  refine g_istore k (lv2 := [(0, .ref a), (1, vi (p : Int)), (2, vi (l : Int)), (3, vi (c : Int)), (4, vi (nxo M f s np p : Int))]) (by decide) rfl rfl dX8_follow_6 ?_
  refine g_iload k rfl dX8_follow_8 ?_
  refine g_aload_n k rfl dX8_follow_10 ?_
  refine g_get k 8 0 (C := RX8) (T := TX8) (N := 4) fl_X8_25 rfl wi_X8 (by decide) rfl ha rfl dX8_follow_11 ?_
  refine g_icmp_ge k (tgt := 23) (by omega) (by omega) dX8_follow_14 (by decide) (fun c14 => ?_) (fun c14 => ?_)
  · skip
    refine g_iload_n k rfl dX8_follow_23 ?_
    refine g_iconst k dX8_follow_24 ?_
    refine g_iadd k dX8_follow_25 ?_
    rw [← hQQ]
    refine g_ireti k rfl dX8_follow_26 ?_
    exact ⟨by rw [folF]; rfl, hLy, fr0⟩
  · skip
    refine g_iload_n k rfl dX8_follow_17 ?_
    refine g_bipush k rfl dX8_follow_18 ?_
    refine g_icmp_lt k (tgt := 27) (by omega) (by omega) dX8_follow_20 (by decide) (fun c20 => ?_) (fun c20 => ?_)
    · skip
      omega
    · skip
      refine g_iload_n k rfl dX8_follow_23 ?_
      refine g_iconst k dX8_follow_24 ?_
      refine g_iadd k dX8_follow_25 ?_
      rw [← hQQ]
      refine g_ireti k rfl dX8_follow_26 ?_
      exact ⟨by rw [folF]; rfl, hLy, fr0⟩

theorem b_X8_follow {G : Gx} {a np it : Nat} {F S : Nat → Int} {f s : Nat → Nat} {GM : (Nat → Int) → Prop} (hP : Pq it np F S f s) (hG : GMo it np f s GM) {kf : Nat} (hbr : BrC G a it np f s F S GM kf) : FolC G a it np f s F S GM (kf + 1) := by
  intro h nx l p c M hlk hW hLy hM hGM hp hc
  have hW0 := hW
  obtain ⟨ha, hf, hs, f9, hy, hf9⟩ := hW
  obtain ⟨hp28, h8, hpp⟩ := id hP
  have hBM := hG.1 M hGM
  have hq := nxo_b (M := M) (f := f) (s := s) hp
  have ho7 := opt_le M (f (nxo M f s np p)) (s (nxo M f s np p))
  have hpc := pc8_3 _ ho7
  refine Con.of v_X8_follow.2.2.2.2.2.1 (Nat.le_of_ble_eq_true rfl) (lv := [(0, .ref a), (1, vi (p : Int)), (2, vi (l : Int)), (3, vi (c : Int))]) rfl (fun X k => ?_)
  generalize hQQ : QM G X nx 0 0 _ = QQ
  have fr0 : ∀ q : Nat, (q < a + 4 + 2 * (l + 1) ∨ a + 61 < q) → h q = h q := fun _ _ => rfl
  refine g_aload_n k rfl dX8_follow_0 ?_
  refine g_iload_n k rfl dX8_follow_1 ?_
  refine g_iload_n k rfl dX8_follow_2 ?_
  refine g_cVi k 8 (As := [vi (p : Int), vi (l : Int)]) v_X8_nextOpen rfl rfl ha ml_X8_51 (c_X8_nextOpen hW0 hP (by omega) hM hBM (by omega) hp) (by omega) (by omega) rfl (Nat.le_of_ble_eq_true rfl) rfl dX8_follow_3 (fun r3 h3 p3 => ?_)
  obtain ⟨eh3, p3⟩ := p3
  have eh3 := eh3.symm; subst eh3
  subst p3
  refine g_istore k (lv2 := [(0, .ref a), (1, vi (p : Int)), (2, vi (l : Int)), (3, vi (c : Int)), (4, vi (nxo M f s np p : Int))]) (by decide) rfl rfl dX8_follow_6 ?_
  refine g_iload k rfl dX8_follow_8 ?_
  refine g_aload_n k rfl dX8_follow_10 ?_
  refine g_get k 8 0 (C := RX8) (T := TX8) (N := 4) fl_X8_25 rfl wi_X8 (by decide) rfl ha rfl dX8_follow_11 ?_
  refine g_icmp_ge k (tgt := 23) (by omega) (by omega) dX8_follow_14 (by decide) (fun c14 => ?_) (fun c14 => ?_)
  · skip
    refine g_iload_n k rfl dX8_follow_23 ?_
    refine g_iconst k dX8_follow_24 ?_
    refine g_iadd k dX8_follow_25 ?_
    rw [← hQQ]
    refine g_ireti k rfl dX8_follow_26 ?_
    exact ⟨by rw [folF, if_pos (by omega)]; rfl, hLy, fr0⟩
  · skip
    refine g_iload_n k rfl dX8_follow_17 ?_
    refine g_bipush k rfl dX8_follow_18 ?_
    refine g_icmp_lt k (tgt := 27) (by omega) (by omega) dX8_follow_20 (by decide) (fun c20 => ?_) (fun c20 => ?_)
    · skip
      refine g_aload_n k rfl dX8_follow_27 ?_
      refine g_iload k rfl dX8_follow_28 ?_
      refine g_iload_n k rfl dX8_follow_30 ?_
      refine g_cVi k 8 (As := [vi (nxo M f s np p : Int), vi (l : Int)]) v_X8_optionsOf rfl rfl ha ml_X8_54 (c_X8_optionsOf hW0 hP (by omega) hM hBM (by omega) (p := nxo M f s np p) (by omega)) (by omega) (by omega) rfl (Nat.le_of_ble_eq_true rfl) rfl dX8_follow_31 (fun r31 h31 p31 => ?_)
      obtain ⟨eh31, p31⟩ := p31
      have eh31 := eh31.symm; subst eh31
      subst p31
      refine g_istore k (lv2 := [(0, .ref a), (1, vi (p : Int)), (2, vi (l : Int)), (3, vi (c : Int)), (4, vi (nxo M f s np p : Int)), (5, vi (opt M (f (nxo M f s np p)) (s (nxo M f s np p)) : Int))]) (by decide) rfl rfl dX8_follow_34 ?_
      refine g_aload_n k rfl dX8_follow_36 ?_
      refine g_iload k rfl dX8_follow_37 ?_
      refine g_iconst k dX8_follow_39 ?_
      refine g_iadd k dX8_follow_40 ?_
      refine g_iload_n k rfl dX8_follow_41 ?_
      refine g_cVi k 8 (As := [vi ((nxo M f s np p : Int) + 1), vi (l : Int)]) v_X8_nextOpen rfl rfl ha ml_X8_51 (c_X8_nextOpen hW0 hP (by omega) hM hBM (by omega) (p := nxo M f s np p + 1) (by omega)) (by omega) (by omega) rfl (Nat.le_of_ble_eq_true rfl) rfl dX8_follow_42 (fun r42 h42 p42 => ?_)
      obtain ⟨eh42, p42⟩ := p42
      have eh42 := eh42.symm; subst eh42
      subst p42
      have hq2 := nxo_b (M := M) (f := f) (s := s) (np := np) (p := nxo M f s np p + 1) (by omega)
      refine g_aload_n k rfl dX8_follow_45 ?_
      refine g_get k 8 0 (C := RX8) (T := TX8) (N := 4) fl_X8_25 rfl wi_X8 (by decide) rfl ha rfl dX8_follow_46 ?_
      refine g_icmp_lt k (tgt := 60) (by omega) (by omega) dX8_follow_49 (by decide) (fun c49 => ?_) (fun c49 => ?_)
      · skip
        have hf2 := folF_cs (it := it) (k := kf) (c := c) (show ¬ np ≤ nxo M f s np p by omega) (by omega)
        refine g_iload_n k rfl dX8_follow_60 ?_
        refine g_istore k (lv2 := [(0, .ref a), (1, vi (p : Int)), (2, vi (l : Int)), (3, vi (c : Int)), (4, vi (nxo M f s np p : Int)), (5, vi (opt M (f (nxo M f s np p)) (s (nxo M f s np p)) : Int)), (6, vi (c : Int))]) (by decide) rfl rfl dX8_follow_61 ?_
        refine g_iconst k dX8_follow_63 ?_
        refine g_istore k (lv2 := [(0, .ref a), (1, vi (p : Int)), (2, vi (l : Int)), (3, vi (c : Int)), (4, vi (nxo M f s np p : Int)), (5, vi (opt M (f (nxo M f s np p)) (s (nxo M f s np p)) : Int)), (6, vi (c : Int)), (7, vi 1)]) (by decide) rfl rfl dX8_follow_64 ?_
        have K66 : ∀ (nz : Nat) (j : Nat) (h66 : Hp) (ha_ : h66 a = some (ob 8 [vi (np : Int), .ref (a + 1), .ref (a + 2), .ref (a + 3)])) (hf_ : h66 (a + 1) = some (ai G 28 F)) (hs_ : h66 (a + 2) = some (ai G 28 S)) (hy_ : h66 (a + 3) = some (ar G 29 f9)) (fr_ : ∀ q : Nat, (q < a + 4 + 2 * (l + 1) ∨ a + 61 < q) → h66 q = h q) (hj : j ≤ 3) (hLy2 : LyA G h66 a) (hmz : 3 - j < nz), Go G X 8 QQ 0 0 nx 66 [(0, .ref a), (1, vi (p : Int)), (2, vi (l : Int)), (3, vi (c : Int)), (4, vi (nxo M f s np p : Int)), (5, vi (opt M (f (nxo M f s np p)) (s (nxo M f s np p)) : Int)), (6, vi (csF it np f s kf M (nxo M f s np p) c j : Int)), (7, vi ((2 ^ j : Nat) : Int))] [] h66 := by
          intro nz
          induction nz with
          | zero => intro j h66 ha_ hf_ hs_ hy_ fr_ hj hLy2 hmz; exact absurd hmz (Nat.not_lt_zero _)
          | succ nz ih66 =>
            intro j h66 ha_ hf_ hs_ hy_ fr_ hj hLy2 hmz
            have hcl := csF_le (it := it) (np := np) (f := f) (s := s) (k := kf) (M := M) (q := nxo M f s np p) hc j
            have hpj := pw8 (n := j) (by omega)
            have ej := pw3 j (by omega)
            refine g_iload k rfl dX8_follow_66 ?_
            refine g_iconst k dX8_follow_68 ?_
            refine g_icmp_gt k (tgt := 110) (by omega) (by omega) dX8_follow_69 (by decide) (fun c69 => ?_) (fun c69 => ?_)
            · skip
              refine g_iload k rfl dX8_follow_110 ?_
              rw [← hQQ]
              refine g_ireti k rfl dX8_follow_112 ?_
              have e3 : j = 3 := by
                rcases (show j < 3 ∨ j = 3 by omega) with q | q
                · rcases (show j = 0 ∨ j = 1 ∨ j = 2 by omega) with z | z | z <;> (subst z; omega)
                · exact q
              subst e3
              exact ⟨by rw [hf2], hLy2, fr_⟩
            · skip
              have hj3 : j < 3 := by
                rcases (show j < 3 ∨ j = 3 by omega) with q | q
                · exact q
                · subst q; omega
              have hbo := bitO _ (show opt M (f (nxo M f s np p)) (s (nxo M f s np p)) < 8 by omega) j hj3
              have hbm : opt M (f (nxo M f s np p)) (s (nxo M f s np p)) / 2 ^ j % 2 < 2 := Nat.mod_lt _ (by decide)
              have hal : (opt M (f (nxo M f s np p)) (s (nxo M f s np p)) &&& 2 ^ j) ≤ opt M (f (nxo M f s np p)) (s (nxo M f s np p)) := land_le
              refine g_iload k rfl dX8_follow_72 ?_
              refine g_sipush k rfl dX8_follow_74 ?_
              refine g_icmp_gt k (tgt := 110) (by omega) (by omega) dX8_follow_77 (by decide) (fun c77 => ?_) (fun c77 => ?_)
              · skip
                refine g_iload k rfl dX8_follow_110 ?_
                rw [← hQQ]
                refine g_ireti k rfl dX8_follow_112 ?_
                exact ⟨by rw [hf2, show 3 = j + (3 - j) by omega, csF_stop (3 - j) j (by omega)], hLy2, fr_⟩
              · skip
                refine g_iload k rfl dX8_follow_80 ?_
                refine g_iload k rfl dX8_follow_82 ?_
                refine g_iand k (a := opt M (f (nxo M f s np p)) (s (nxo M f s np p))) (b := 2 ^ j) (by omega) (by omega) dX8_follow_84 ?_
                refine g_if_eq k (tgt := 101) (by omega) dX8_follow_85 (by decide) (fun c85 => ?_) (fun c85 => ?_)
                · skip
                  refine g_iload k rfl dX8_follow_101 ?_
                  refine g_iconst k dX8_follow_103 ?_
                  refine g_ishl k (by omega) dX8_follow_104 ?_
                  rw [show ((2 ^ j : Nat) : Int) * 2 ^ (1 : Int).toNat = ((2 ^ (j + 1) : Nat) : Int) from (by rw [Nat.pow_succ, Int.natCast_mul]; rfl)]
                  refine g_istore k (lv2 := [(0, .ref a), (1, vi (p : Int)), (2, vi (l : Int)), (3, vi (c : Int)), (4, vi (nxo M f s np p : Int)), (5, vi (opt M (f (nxo M f s np p)) (s (nxo M f s np p)) : Int)), (6, vi (csF it np f s kf M (nxo M f s np p) c j : Int)), (7, vi ((2 ^ (j + 1) : Nat) : Int))]) (by decide) rfl rfl dX8_follow_105 ?_
                  refine g_goto k (tgt := 66) dX8_follow_107 (by decide) ?_
                  rw [show csF it np f s kf M (nxo M f s np p) c j = csF it np f s kf M (nxo M f s np p) c (j + 1) by rw [csF, if_neg (by omega)]]
                  exact ih66 (j + 1) h66 ha_ hf_ hs_ hy_ fr_ (by omega) hLy2 (by omega)
                · skip
                  refine g_aload_n k rfl dX8_follow_88 ?_
                  refine g_iload k rfl dX8_follow_89 ?_
                  refine g_iload_n k rfl dX8_follow_91 ?_
                  refine g_iload k rfl dX8_follow_92 ?_
                  refine g_iload k rfl dX8_follow_94 ?_
                  refine g_cVi k 8 (As := [vi (nxo M f s np p : Int), vi (l : Int), vi ((2 ^ j : Nat) : Int), vi (csF it np f s kf M (nxo M f s np p) c j : Int)]) v_X8_branch rfl rfl ha_ ml_X8_63 (hbr h66 nx l (nxo M f s np p) (csF it np f s kf M (nxo M f s np p) c j) j M (by omega) (hW0.keep (fun q g1 g2 => fr_ q (by omega))) hLy2 (hM.keep (fun q g1 g2 => fr_ q (by omega))) hGM (by omega) (by omega) (by omega) (by omega)) (by omega) (by omega) rfl (Nat.le_of_ble_eq_true rfl) rfl dX8_follow_96 (fun r96 h96 p96 => ?_)
                  obtain ⟨p96e, nL, nfr⟩ := p96
                  subst p96e
                  have ha__1 : h96 a = some (ob 8 [vi (np : Int), .ref (a + 1), .ref (a + 2), .ref (a + 3)]) := (nfr _ (by omega)).trans ha_
                  have hf__1 : h96 (a + 1) = some (ai G 28 F) := (nfr _ (by omega)).trans hf_
                  have hs__1 : h96 (a + 2) = some (ai G 28 S) := (nfr _ (by omega)).trans hs_
                  have hy__1 : h96 (a + 3) = some (ar G 29 f9) := (nfr _ (by omega)).trans hy_
                  have fr__1 : ∀ q : Nat, (q < a + 4 + 2 * (l + 1) ∨ a + 61 < q) → h96 q = h q := fun q hq => (nfr q (by omega)).trans (fr_ q hq)
                  refine g_istore k (lv2 := [(0, .ref a), (1, vi (p : Int)), (2, vi (l : Int)), (3, vi (c : Int)), (4, vi (nxo M f s np p : Int)), (5, vi (opt M (f (nxo M f s np p)) (s (nxo M f s np p)) : Int)), (6, vi (folF it np f s kf (jnB M it (2 ^ j) (f (nxo M f s np p)) (s (nxo M f s np p))) (nxo M f s np p + 1) (csF it np f s kf M (nxo M f s np p) c j) : Int)), (7, vi ((2 ^ j : Nat) : Int))]) (by decide) rfl rfl dX8_follow_99 ?_
                  refine g_iload k rfl dX8_follow_101 ?_
                  refine g_iconst k dX8_follow_103 ?_
                  refine g_ishl k (by omega) dX8_follow_104 ?_
                  rw [show ((2 ^ j : Nat) : Int) * 2 ^ (1 : Int).toNat = ((2 ^ (j + 1) : Nat) : Int) from (by rw [Nat.pow_succ, Int.natCast_mul]; rfl)]
                  refine g_istore k (lv2 := [(0, .ref a), (1, vi (p : Int)), (2, vi (l : Int)), (3, vi (c : Int)), (4, vi (nxo M f s np p : Int)), (5, vi (opt M (f (nxo M f s np p)) (s (nxo M f s np p)) : Int)), (6, vi (folF it np f s kf (jnB M it (2 ^ j) (f (nxo M f s np p)) (s (nxo M f s np p))) (nxo M f s np p + 1) (csF it np f s kf M (nxo M f s np p) c j) : Int)), (7, vi ((2 ^ (j + 1) : Nat) : Int))]) (by decide) rfl rfl dX8_follow_105 ?_
                  refine g_goto k (tgt := 66) dX8_follow_107 (by decide) ?_
                  rw [show folF it np f s kf (jnB M it (2 ^ j) (f (nxo M f s np p)) (s (nxo M f s np p))) (nxo M f s np p + 1) (csF it np f s kf M (nxo M f s np p) c j) = csF it np f s kf M (nxo M f s np p) c (j + 1) by rw [csF, if_pos (by omega)]]
                  exact ih66 (j + 1) h96 ha__1 hf__1 hs__1 hy__1 fr__1 (by omega) nL (by omega)
        exact K66 _ 0 h ha hf hs hy fr0 (Nat.zero_le _) hLy (Nat.lt_succ_self _)
      · skip
        refine g_iload_n k rfl dX8_follow_52 ?_
        refine g_iload k rfl dX8_follow_53 ?_
        refine g_cSi k (As := [vi (opt M (f (nxo M f s np p)) (s (nxo M f s np p)) : Int)]) v_J6_bitCount_0f7a4 ml_X8_57 (c_J6_bitCount (n := opt M (f (nxo M f s np p)) (s (nxo M f s np p))) (by omega)) (by omega) (by omega) rfl (Nat.le_of_ble_eq_true rfl) rfl dX8_follow_55 (fun r55 h55 p55 => ?_)
        obtain ⟨eh55, p55⟩ := p55
        have eh55 := eh55.symm; subst eh55
        subst p55
        refine g_iadd k dX8_follow_58 ?_
        rw [← hQQ]
        refine g_ireti k rfl dX8_follow_59 ?_
        exact ⟨by rw [folF, if_neg (by omega), if_pos (by omega)]; rfl, hLy, fr0⟩
    · skip
      omega

theorem c_X8_follow {G : Gx} {a np it : Nat} {F S : Nat → Int} {f s : Nat → Nat} {GM : (Nat → Int) → Prop} (hP : Pq it np F S f s) (hG : GMo it np f s GM) : ∀ k, FolC G a it np f s F S GM k
  | 0 => b_X8_follow0 hP hG
  | k + 1 => b_X8_follow hP hG (b_X8_branch hP hG (c_X8_follow hP hG k))
/-- the pairs of which no fact is told -/
noncomputable def prA (φ : Fs) (x : Nat) : Nat → List (Nat × Nat)
  | 0 => []
  | m + 1 => prA φ x m ++ (if ix φ x (x + 1 + m : Nat) = -1 then [(x, x + 1 + m)] else [])
noncomputable def prs (φ : Fs) (it : Nat) : Nat → List (Nat × Nat)
  | 0 => []
  | n + 1 => prs φ it n ++ prA φ n (it - (n + 1))
def cmF (it : Nat) : Nat → Nat
  | 0 => 0
  | n + 1 => cmF it n + (it - (n + 1))
theorem cmF_b : ∀ it, it < 9 → ∀ n, n < it → ∀ m, m < it - (n + 1) → cmF it n + m < 28 := by decide
theorem cmF_t : ∀ it, it < 9 → cmF it it ≤ 28 := by decide
theorem prA_len (φ : Fs) (x : Nat) : ∀ m, (prA φ x m).length ≤ m
  | 0 => Nat.le_refl 0
  | m + 1 => by have := prA_len φ x m; unfold prA; rw [List.length_append]; split <;> simp <;> omega
theorem prs_len (φ : Fs) (it : Nat) : ∀ n, (prs φ it n).length ≤ cmF it n
  | 0 => Nat.le_refl 0
  | n + 1 => by have := prs_len φ it n; have := prA_len φ n (it - (n + 1)); unfold prs cmF; rw [List.length_append]; omega
def PRw (l : List (Nat × Nat)) (F S : Nat → Int) : Prop := ∀ i, i < l.length → F i = (l.getD i (0, 0)).1 ∧ S i = (l.getD i (0, 0)).2
theorem PRw.add {l : List (Nat × Nat)} {F S : Nat → Int} (h : PRw l F S) {x y : Nat} : PRw (l ++ [(x, y)]) (fu F l.length x) (fu S l.length y) := by
  intro i hi
  rw [List.length_append, List.length_singleton] at hi
  by_cases e : i = l.length
  · subst e
    rw [fu_s, fu_s]
    simp [List.getD_eq_getElem?_getD]
  · have hl : i < l.length := by omega
    rw [fu_n e, fu_n e]
    have := h i hl
    simp only [List.getD_eq_getElem?_getD, List.getElem?_append_left hl] at this ⊢
    exact this
theorem prA_in (φ : Fs) (x : Nat) : ∀ m q, q ∈ prA φ x m → q.1 = x ∧ x < q.2 ∧ q.2 < x + 1 + m ∧ ix φ x (q.2 : Nat) = -1
  | 0, q, h => by cases h
  | m + 1, q, h => by
    unfold prA at h
    rcases List.mem_append.mp h with z | z
    · have := prA_in φ x m q z; exact ⟨this.1, this.2.1, by omega, this.2.2.2⟩
    · split at z
      · rename_i hc
        have e := List.mem_singleton.mp z
        subst e
        exact ⟨rfl, by dsimp only; omega, by dsimp only; omega, hc⟩
      · cases z
theorem prs_in (φ : Fs) (it : Nat) : ∀ n q, n ≤ it → q ∈ prs φ it n → q.1 < n ∧ q.1 < q.2 ∧ q.2 < it ∧ ix φ (q.1 : Nat) (q.2 : Nat) = -1
  | 0, q, _, h => by cases h
  | n + 1, q, hn, h => by
    unfold prs at h
    rcases List.mem_append.mp h with z | z
    · have := prs_in φ it n q (by omega) z; exact ⟨by omega, this.2⟩
    · have := prA_in φ n _ q z
      obtain ⟨g1, g2, g3, g4⟩ := this
      exact ⟨by omega, by omega, by omega, by rw [g1]; exact g4⟩
noncomputable def pF (φ : Fs) (it i : Nat) : Nat := ((prs φ it it).getD i (0, 0)).1
noncomputable def pS (φ : Fs) (it i : Nat) : Nat := ((prs φ it it).getD i (0, 0)).2
theorem pr_at {φ : Fs} {it i : Nat} (h : i < (prs φ it it).length) : pF φ it i < pS φ it i ∧ pS φ it i < it ∧ ix φ (pF φ it i : Nat) (pS φ it i : Nat) = -1 := by
  have hm : (prs φ it it)[i] ∈ prs φ it it := List.getElem_mem h
  have := prs_in φ it it _ (Nat.le_refl it) hm
  unfold pF pS
  rw [List.getD_eq_getElem?_getD, List.getElem?_eq_getElem h]
  exact this.2
def WA (G : Gx) (h : Hp) (a : Nat) : Prop := (∃ (np : Nat) (F S : Nat → Int), WC G h a np F S) ∧ LyA G h a
noncomputable def wysF (φ : Fs) (it : Nat) : Nat := folF it (prs φ it it).length (pF φ it) (pS φ it) 28 (wgh φ 0 it) 0 0
set_option maxHeartbeats 600000 in
set_option maxRecDepth 100000 in
theorem c_X8_count {G : Gx} {h : Hp} {nx a b it : Nat} {φ : Fs} (hWA : WA G h a) (hF : FA G h b it φ) (hS : Sm it φ) (hd : a + 61 < b ∨ b + 3 < a) {GM : (Nat → Int) → Prop} (hG : GMo it (prs φ it it).length (pF φ it) (pS φ it) GM) (hGW : GM (wgh φ 0 it)) : Con G yX8_count cX8_count 4 (some .int) 63 0 0 [.ref a, .ref b] h nx (PI fun z h' => z = ((if wysF φ it ≤ 999 then wysF φ it else 999 : Nat) : Int) ∧ WA G h' a ∧ ∀ q : Nat, (q < a ∨ a + 61 < q) → h' q = h q) := by
  obtain ⟨⟨np, F, S, hW0⟩, hLy⟩ := hWA
  obtain ⟨ha, hf, hs, f9, hy, hf9⟩ := id hW0
  obtain ⟨it7, M7, hM7⟩ := hLy 0 (by omega)
  have hx := hM7.1
  have hF0 := hF
  obtain ⟨K5, F5, Z5, hb, hbk, hbf, hbs, hr⟩ := hF
  obtain ⟨h8, h28, hsm⟩ := id hS
  refine Con.of v_X8_count.2.2.2.2.2.1 (Nat.le_of_ble_eq_true rfl) (lv := [(0, .ref a), (1, .ref b)]) rfl (fun X k => ?_)
  generalize hQQ : QM G X nx 0 0 _ = QQ
  have fr0 : ∀ q : Nat, (q < a ∨ a + 61 < q) → h q = h q := fun _ _ => rfl
  refine g_aload_n k rfl dX8_count_0 ?_
  refine g_iconst k dX8_count_1 ?_
  refine g_put k 8 0 (C := RX8) (T := TX8) (N := 4) fl_X8_25 rfl wi_X8 tyX8 tyX8_ok nmX8 (by decide) rfl rfl rfl rfl ha (Nat.le_of_ble_eq_true rfl) (fs2 := [vi 0, .ref (a + 1), .ref (a + 2), .ref (a + 3)]) rfl rfl dX8_count_2 (fun h2 eh2 => ?_)
  have ha_ : h2 a = some (ob 8 [vi 0, .ref (a + 1), .ref (a + 2), .ref (a + 3)]) := (congrFun eh2 _).trans hup_s
  have hf_ : h2 (a + 1) = some (ai G 28 F) := (congrFun eh2 _).trans ((hup_n (by omega)).trans hf)
  have hs_ : h2 (a + 2) = some (ai G 28 S) := (congrFun eh2 _).trans ((hup_n (by omega)).trans hs)
  have hy_ : h2 (a + 3) = some (ar G 29 f9) := (congrFun eh2 _).trans ((hup_n (by omega)).trans hy)
  have hx_ : h2 (a + 4) = some (ob 3 [vi (it7 : Int), .ref (a + 4 + 1)]) := (congrFun eh2 _).trans ((hup_n (by omega)).trans hx)
  have hb_ : h2 b = some (ob 0 [vi (it : Int), vi (φ.length : Int), .ref (b + 1), .ref (b + 2), .ref (b + 3)]) := (congrFun eh2 _).trans ((hup_n (by omega)).trans hb)
  have fr_ : ∀ q : Nat, (q < a ∨ a + 61 < q) → h2 q = h q := fun q hq => (congrFun eh2 q).trans ((hup_n (by omega)).trans (fr0 q hq))
  refine g_iconst k dX8_count_5 ?_
  refine g_istore_n k (lv2 := [(0, .ref a), (1, .ref b), (2, vi 0)]) (by decide) rfl rfl dX8_count_6 ?_
  have K7 : ∀ (nz : Nat) (x : Nat) (F1 : Nat → Int) (S1 : Nat → Int) (h7 : Hp) (ha__1 : h7 a = some (ob 8 [vi ((prs φ it x).length : Int), .ref (a + 1), .ref (a + 2), .ref (a + 3)])) (hf__1 : h7 (a + 1) = some (ai G 28 F1)) (hs__1 : h7 (a + 2) = some (ai G 28 S1)) (hy__1 : h7 (a + 3) = some (ar G 29 f9)) (hx__1 : h7 (a + 4) = some (ob 3 [vi (it7 : Int), .ref (a + 4 + 1)])) (hb__1 : h7 b = some (ob 0 [vi (it : Int), vi (φ.length : Int), .ref (b + 1), .ref (b + 2), .ref (b + 3)])) (fr__1 : ∀ q : Nat, (q < a ∨ a + 61 < q) → h7 q = h q) (hx1 : x ≤ it) (hpr : PRw (prs φ it x) F1 S1) (hup : ∀ q, a + 3 < q → h7 q = h q) (hmz : it - x < nz), Go G X 4 QQ 0 0 nx 7 [(0, .ref a), (1, .ref b), (2, vi (x : Int))] [] h7 := by
    intro nz
    induction nz with
    | zero => intro x F1 S1 h7 ha__1 hf__1 hs__1 hy__1 hx__1 hb__1 fr__1 hx1 hpr hup hmz; exact absurd hmz (Nat.not_lt_zero _)
    | succ nz ih7 =>
      intro x F1 S1 h7 ha__1 hf__1 hs__1 hy__1 hx__1 hb__1 fr__1 hx1 hpr hup hmz
      refine g_iload_n k rfl dX8_count_7 ?_
      refine g_aload_n k rfl dX8_count_8 ?_
      refine g_get k 0 0 (C := RX0) (T := TX0) (N := 5) fl_X8_29 rfl wi_X0 (by decide) rfl hb__1 rfl dX8_count_9 ?_
      refine g_icmp_ge k (tgt := 88) (by omega) (by omega) dX8_count_12 (by decide) (fun c12 => ?_) (fun c12 => ?_)
      · skip
        have ex : x = it := by omega
        rw [ex] at ha__1 hpr
        have hln2 := prs_len φ it it
        have hct := cmF_t it (by omega)
        have hPq : Pq it (prs φ it it).length F1 S1 (pF φ it) (pS φ it) := ⟨by omega, h8, fun i hi => ⟨(hpr i hi).1, (hpr i hi).2, by have := pr_at hi; omega, (pr_at hi).2.1⟩⟩
        refine g_aload_n k rfl dX8_count_88 ?_
        refine g_get k 8 3 (C := RX8) (T := TX8) (N := 4) fl_X8_20 rfl wi_X8 (by decide) rfl ha__1 rfl dX8_count_89 ?_
        refine g_iconst k dX8_count_92 ?_
        refine g_aldr k 0 hy__1 (by omega) (by omega) (by decide) (b := a + 4) (hf9 0 (by omega)) dX8_count_93 ?_
        refine g_aload_n k rfl dX8_count_94 ?_
        refine g_iconst k dX8_count_95 ?_
        refine g_cVv k 3 (As := [.ref b, vi 0]) v_X3_weigh rfl rfl hx__1 ml_X8_38 (c_X3_weigh (w := 0) (a := a + 4) (it := it) (hF0.keep (fun q g1 g2 => fr__1 q (by omega))) hS (by omega) (hM7.keep (fun q g1 g2 => hup q (by omega))) (by omega)) (by omega) (by omega) rfl (Nat.le_of_ble_eq_true rfl) rfl dX8_count_96 (fun h96 p96 => ?_)
        obtain ⟨nM, nfr⟩ := p96
        have ha__2 : h96 a = some (ob 8 [vi ((prs φ it it).length : Int), .ref (a + 1), .ref (a + 2), .ref (a + 3)]) := (nfr _ (by omega)).trans ha__1
        have hf__2 : h96 (a + 1) = some (ai G 28 F1) := (nfr _ (by omega)).trans hf__1
        have hs__2 : h96 (a + 2) = some (ai G 28 S1) := (nfr _ (by omega)).trans hs__1
        have hy__2 : h96 (a + 3) = some (ar G 29 f9) := (nfr _ (by omega)).trans hy__1
        have hx__2 : h96 (a + 4) = some (ob 3 [vi (it : Int), .ref (a + 4 + 1)]) := nM.1
        have hb__2 : h96 b = some (ob 0 [vi (it : Int), vi (φ.length : Int), .ref (b + 1), .ref (b + 2), .ref (b + 3)]) := (nfr _ (by omega)).trans hb__1
        have fr__2 : ∀ q : Nat, (q < a ∨ a + 61 < q) → h96 q = h q := fun q hq => (nfr q (by omega)).trans (fr__1 q hq)
        have hLy9 : LyA G h96 a := by
          intro i hi
          by_cases e : i = 0
          · subst e; exact ⟨_, _, nM⟩
          · obtain ⟨i8, M8, h88⟩ := hLy i hi
            exact ⟨i8, M8, h88.keep (fun q g1 g2 => (nfr q (by omega)).trans (hup q (by omega)))⟩
        refine g_aload_n k rfl dX8_count_99 ?_
        refine g_iconst k dX8_count_100 ?_
        refine g_iconst k dX8_count_101 ?_
        refine g_iconst k dX8_count_102 ?_
        refine g_cVi k 8 (As := [vi 0, vi 0, vi 0]) v_X8_follow rfl rfl ha__2 ml_X8_42 (c_X8_follow hPq hG 28 h96 nx 0 0 0 (wgh φ 0 it) rfl ⟨ha__2, hf__2, hs__2, f9, hy__2, hf9⟩ hLy9 nM hGW (Nat.zero_le _) (by omega)) (by omega) (by omega) rfl (Nat.le_of_ble_eq_true rfl) rfl dX8_count_103 (fun r103 h103 p103 => ?_)
        obtain ⟨p103e, nL, nfr3⟩ := p103
        subst p103e
        have ha__3 : h103 a = some (ob 8 [vi ((prs φ it it).length : Int), .ref (a + 1), .ref (a + 2), .ref (a + 3)]) := (nfr3 _ (by omega)).trans ha__2
        have hf__3 : h103 (a + 1) = some (ai G 28 F1) := (nfr3 _ (by omega)).trans hf__2
        have hs__3 : h103 (a + 2) = some (ai G 28 S1) := (nfr3 _ (by omega)).trans hs__2
        have hy__3 : h103 (a + 3) = some (ar G 29 f9) := (nfr3 _ (by omega)).trans hy__2
        have hb__3 : h103 b = some (ob 0 [vi (it : Int), vi (φ.length : Int), .ref (b + 1), .ref (b + 2), .ref (b + 3)]) := (nfr3 _ (by omega)).trans hb__2
        have fr__3 : ∀ q : Nat, (q < a ∨ a + 61 < q) → h103 q = h q := fun q hq => (nfr3 q (by omega)).trans (fr__2 q hq)
        rw [show folF it (prs φ it it).length (pF φ it) (pS φ it) 28 (wgh φ 0 it) 0 0 = wysF φ it from rfl]
        have hwl := folF_le it (prs φ it it).length (pF φ it) (pS φ it) 28 (wgh φ 0 it) 0 0 (by omega)
        have hwl : wysF φ it ≤ 1002 := hwl
        refine g_sipush k rfl dX8_count_106 ?_
        refine g_min k (by omega) (by omega) ml_X8_46 st_min cd_min (by omega) (by omega) (Nat.le_of_ble_eq_true rfl) dX8_count_109 ?_
        rw [← hQQ]
        refine g_ireti k rfl dX8_count_112 ?_
        refine ⟨?_, ⟨⟨_, F1, S1, ha__3, hf__3, hs__3, f9, hy__3, hf9⟩, nL⟩, fr__3⟩
        by_cases e : wysF φ it ≤ 999
        · rw [if_pos e, if_neg (by omega)]
        · rw [if_neg e, if_pos (by omega)]; rfl
      · skip
        refine g_iload_n k rfl dX8_count_15 ?_
        refine g_iconst k dX8_count_16 ?_
        refine g_iadd k dX8_count_17 ?_
        refine g_istore_n k (lv2 := [(0, .ref a), (1, .ref b), (2, vi (x : Int)), (3, vi ((x : Int) + 1))]) (by decide) rfl rfl dX8_count_18 ?_
        have K19 : ∀ (nz_1 : Nat) (m : Nat) (F2 : Nat → Int) (S2 : Nat → Int) (h19 : Hp) (ha__4 : h19 a = some (ob 8 [vi ((prs φ it x ++ prA φ x m).length : Int), .ref (a + 1), .ref (a + 2), .ref (a + 3)])) (hf__4 : h19 (a + 1) = some (ai G 28 F2)) (hs__4 : h19 (a + 2) = some (ai G 28 S2)) (hy__4 : h19 (a + 3) = some (ar G 29 f9)) (hx__4 : h19 (a + 4) = some (ob 3 [vi (it7 : Int), .ref (a + 4 + 1)])) (hb__4 : h19 b = some (ob 0 [vi (it : Int), vi (φ.length : Int), .ref (b + 1), .ref (b + 2), .ref (b + 3)])) (fr__4 : ∀ q : Nat, (q < a ∨ a + 61 < q) → h19 q = h q) (hm1 : m ≤ it - (x + 1)) (hpr2 : PRw (prs φ it x ++ prA φ x m) F2 S2) (hup2 : ∀ q, a + 3 < q → h19 q = h q) (hmz_1 : it - (x + 1) - m < nz_1), Go G X 4 QQ 0 0 nx 19 [(0, .ref a), (1, .ref b), (2, vi (x : Int)), (3, vi ((x + 1 + m : Nat) : Int))] [] h19 := by
          intro nz_1
          induction nz_1 with
          | zero => intro m F2 S2 h19 ha__4 hf__4 hs__4 hy__4 hx__4 hb__4 fr__4 hm1 hpr2 hup2 hmz_1; exact absurd hmz_1 (Nat.not_lt_zero _)
          | succ nz_1 ih19 =>
            intro m F2 S2 h19 ha__4 hf__4 hs__4 hy__4 hx__4 hb__4 fr__4 hm1 hpr2 hup2 hmz_1
            refine g_iload_n k rfl dX8_count_19 ?_
            refine g_aload_n k rfl dX8_count_20 ?_
            refine g_get k 0 0 (C := RX0) (T := TX0) (N := 5) fl_X8_29 rfl wi_X0 (by decide) rfl hb__4 rfl dX8_count_21 ?_
            refine g_icmp_ge k (tgt := 82) (by omega) (by omega) dX8_count_24 (by decide) (fun c24 => ?_) (fun c24 => ?_)
            · skip
              refine g_iinc k (lv2 := [(0, .ref a), (1, .ref b), (2, vi ((x : Int) + 1)), (3, vi ((x + 1 + m : Nat) : Int))]) rfl (by decide) rfl rfl dX8_count_82 ?_
              refine g_goto k (tgt := 7) dX8_count_85 (by decide) ?_
              refine g_less (lv2 := [(0, .ref a), (1, .ref b), (2, vi ((x : Int) + 1))]) ⟨rfl, rfl, rfl, trivial⟩ ?_
              have e3 : prs φ it (x + 1) = prs φ it x ++ prA φ x m := by rw [prs, show m = it - (x + 1) by omega]
              rw [← e3] at ha__4
              have hpr3 : PRw (prs φ it (x + 1)) F2 S2 := by rw [e3]; exact hpr2
              exact ih7 (x + 1) F2 S2 h19 ha__4 hf__4 hs__4 hy__4 hx__4 hb__4 fr__4 (by omega) hpr3 hup2 (by omega)
            · skip
              have hln : (prs φ it x ++ prA φ x m).length < 28 := by
                have h1 := prs_len φ it x
                have h2 := prA_len φ x m
                have h3 := cmF_b it (by omega) x (by omega) m (by omega)
                rw [List.length_append]; omega
              have hix := sr_is (P := pm φ (x : Int) ((x + 1 + m : Nat) : Int)) (n := φ.length)
              have hixb : -1 ≤ ix φ (x : Int) ((x + 1 + m : Nat) : Int) ∧ ix φ (x : Int) ((x + 1 + m : Nat) : Int) < 28 := by
                unfold ix
                rcases hix with ⟨e, -⟩ | ⟨k2, e, hk2, -⟩ <;> omega
              refine g_aload_n k rfl dX8_count_27 ?_
              refine g_iload_n k rfl dX8_count_28 ?_
              refine g_iload_n k rfl dX8_count_29 ?_
              refine g_cVi k 0 (As := [vi (x : Int), vi ((x + 1 + m : Nat) : Int)]) v_X0_indexOf rfl rfl hb__4 ml_X8_34 (c_X0_indexOf (hF0.keep (fun q g1 g2 => fr__4 q (by omega))) hS (p := (x : Int)) (q := ((x + 1 + m : Nat) : Int)) (by omega) (by omega)) (by omega) (by omega) rfl (Nat.le_of_ble_eq_true rfl) rfl dX8_count_30 (fun r30 h30 p30 => ?_)
              obtain ⟨eh30, p30⟩ := p30
              have eh30 := eh30.symm; subst eh30
              subst p30
              refine g_iconst k dX8_count_33 ?_
              refine g_icmp_ne k (tgt := 76) (by omega) (by omega) dX8_count_34 (by decide) (fun c34 => ?_) (fun c34 => ?_)
              · skip
                refine g_iinc k (lv2 := [(0, .ref a), (1, .ref b), (2, vi (x : Int)), (3, vi (((x + 1 + m : Nat) : Int) + 1))]) rfl (by decide) rfl rfl dX8_count_76 ?_
                refine g_goto k (tgt := 19) dX8_count_79 (by decide) ?_
                have e4 : prs φ it x ++ prA φ x (m + 1) = (prs φ it x ++ prA φ x m) := by rw [prA, if_neg (by omega), List.append_nil]
                rw [← e4] at ha__4
                exact ih19 (m + 1) F2 S2 h19 ha__4 hf__4 hs__4 hy__4 hx__4 hb__4 fr__4 (by omega) (by rw [e4]; exact hpr2) hup2 (by omega)
              · skip
                refine g_aload_n k rfl dX8_count_37 ?_
                refine g_get k 8 0 (C := RX8) (T := TX8) (N := 4) fl_X8_25 rfl wi_X8 (by decide) rfl ha__4 rfl dX8_count_38 ?_
                refine g_bipush k rfl dX8_count_41 ?_
                refine g_icmp_ge k (tgt := 76) (by omega) (by omega) dX8_count_43 (by decide) (fun c43 => ?_) (fun c43 => ?_)
                · skip
                  omega
                · skip
                  refine g_aload_n k rfl dX8_count_46 ?_
                  refine g_get k 8 1 (C := RX8) (T := TX8) (N := 4) fl_X8_9 rfl wi_X8 (by decide) rfl ha__4 rfl dX8_count_47 ?_
                  refine g_aload_n k rfl dX8_count_50 ?_
                  refine g_get k 8 0 (C := RX8) (T := TX8) (N := 4) fl_X8_25 rfl wi_X8 (by decide) rfl ha__4 rfl dX8_count_51 ?_
                  refine g_iload_n k rfl dX8_count_54 ?_
                  refine g_iast k ((prs φ it x ++ prA φ x m).length) hf__4 (by omega) (by omega) (by decide) dX8_count_55 (fun h55 eh55 => ?_)
                  have ha__5 : h55 a = some (ob 8 [vi ((prs φ it x ++ prA φ x m).length : Int), .ref (a + 1), .ref (a + 2), .ref (a + 3)]) := (congrFun eh55 _).trans ((hup_n (by omega)).trans ha__4)
                  have hf__5 : h55 (a + 1) = some (ai G 28 (fu F2 ((prs φ it x ++ prA φ x m).length) (x : Int))) := (congrFun eh55 _).trans hup_s
                  have hs__5 : h55 (a + 2) = some (ai G 28 S2) := (congrFun eh55 _).trans ((hup_n (by omega)).trans hs__4)
                  have hy__5 : h55 (a + 3) = some (ar G 29 f9) := (congrFun eh55 _).trans ((hup_n (by omega)).trans hy__4)
                  have hx__5 : h55 (a + 4) = some (ob 3 [vi (it7 : Int), .ref (a + 4 + 1)]) := (congrFun eh55 _).trans ((hup_n (by omega)).trans hx__4)
                  have hb__5 : h55 b = some (ob 0 [vi (it : Int), vi (φ.length : Int), .ref (b + 1), .ref (b + 2), .ref (b + 3)]) := (congrFun eh55 _).trans ((hup_n (by omega)).trans hb__4)
                  have fr__5 : ∀ q : Nat, (q < a ∨ a + 61 < q) → h55 q = h q := fun q hq => (congrFun eh55 q).trans ((hup_n (by omega)).trans (fr__4 q hq))
                  refine g_aload_n k rfl dX8_count_56 ?_
                  refine g_get k 8 2 (C := RX8) (T := TX8) (N := 4) fl_X8_15 rfl wi_X8 (by decide) rfl ha__5 rfl dX8_count_57 ?_
                  refine g_aload_n k rfl dX8_count_60 ?_
                  refine g_get k 8 0 (C := RX8) (T := TX8) (N := 4) fl_X8_25 rfl wi_X8 (by decide) rfl ha__5 rfl dX8_count_61 ?_
                  refine g_iload_n k rfl dX8_count_64 ?_
                  refine g_iast k ((prs φ it x ++ prA φ x m).length) hs__5 (by omega) (by omega) (by decide) dX8_count_65 (fun h65 eh65 => ?_)
                  have ha__6 : h65 a = some (ob 8 [vi ((prs φ it x ++ prA φ x m).length : Int), .ref (a + 1), .ref (a + 2), .ref (a + 3)]) := (congrFun eh65 _).trans ((hup_n (by omega)).trans ha__5)
                  have hf__6 : h65 (a + 1) = some (ai G 28 (fu F2 ((prs φ it x ++ prA φ x m).length) (x : Int))) := (congrFun eh65 _).trans ((hup_n (by omega)).trans hf__5)
                  have hs__6 : h65 (a + 2) = some (ai G 28 (fu S2 ((prs φ it x ++ prA φ x m).length) ((x + 1 + m : Nat) : Int))) := (congrFun eh65 _).trans hup_s
                  have hy__6 : h65 (a + 3) = some (ar G 29 f9) := (congrFun eh65 _).trans ((hup_n (by omega)).trans hy__5)
                  have hx__6 : h65 (a + 4) = some (ob 3 [vi (it7 : Int), .ref (a + 4 + 1)]) := (congrFun eh65 _).trans ((hup_n (by omega)).trans hx__5)
                  have hb__6 : h65 b = some (ob 0 [vi (it : Int), vi (φ.length : Int), .ref (b + 1), .ref (b + 2), .ref (b + 3)]) := (congrFun eh65 _).trans ((hup_n (by omega)).trans hb__5)
                  have fr__6 : ∀ q : Nat, (q < a ∨ a + 61 < q) → h65 q = h q := fun q hq => (congrFun eh65 q).trans ((hup_n (by omega)).trans (fr__5 q hq))
                  refine g_aload_n k rfl dX8_count_66 ?_
                  refine g_dup k rfl dX8_count_67 ?_
                  refine g_get k 8 0 (C := RX8) (T := TX8) (N := 4) fl_X8_25 rfl wi_X8 (by decide) rfl ha__6 rfl dX8_count_68 ?_
                  refine g_iconst k dX8_count_71 ?_
                  refine g_iadd k dX8_count_72 ?_
                  refine g_put k 8 0 (C := RX8) (T := TX8) (N := 4) fl_X8_25 rfl wi_X8 tyX8 tyX8_ok nmX8 (by decide) rfl rfl rfl rfl ha__6 (Nat.le_of_ble_eq_true rfl) (fs2 := [vi (((prs φ it x ++ prA φ x m).length : Int) + 1), .ref (a + 1), .ref (a + 2), .ref (a + 3)]) rfl rfl dX8_count_73 (fun h73 eh73 => ?_)
                  have ha__7 : h73 a = some (ob 8 [vi (((prs φ it x ++ prA φ x m).length : Int) + 1), .ref (a + 1), .ref (a + 2), .ref (a + 3)]) := (congrFun eh73 _).trans hup_s
                  have hf__7 : h73 (a + 1) = some (ai G 28 (fu F2 ((prs φ it x ++ prA φ x m).length) (x : Int))) := (congrFun eh73 _).trans ((hup_n (by omega)).trans hf__6)
                  have hs__7 : h73 (a + 2) = some (ai G 28 (fu S2 ((prs φ it x ++ prA φ x m).length) ((x + 1 + m : Nat) : Int))) := (congrFun eh73 _).trans ((hup_n (by omega)).trans hs__6)
                  have hy__7 : h73 (a + 3) = some (ar G 29 f9) := (congrFun eh73 _).trans ((hup_n (by omega)).trans hy__6)
                  have hx__7 : h73 (a + 4) = some (ob 3 [vi (it7 : Int), .ref (a + 4 + 1)]) := (congrFun eh73 _).trans ((hup_n (by omega)).trans hx__6)
                  have hb__7 : h73 b = some (ob 0 [vi (it : Int), vi (φ.length : Int), .ref (b + 1), .ref (b + 2), .ref (b + 3)]) := (congrFun eh73 _).trans ((hup_n (by omega)).trans hb__6)
                  have fr__7 : ∀ q : Nat, (q < a ∨ a + 61 < q) → h73 q = h q := fun q hq => (congrFun eh73 q).trans ((hup_n (by omega)).trans (fr__6 q hq))
                  refine g_iinc k (lv2 := [(0, .ref a), (1, .ref b), (2, vi (x : Int)), (3, vi (((x + 1 + m : Nat) : Int) + 1))]) rfl (by decide) rfl rfl dX8_count_76 ?_
                  refine g_goto k (tgt := 19) dX8_count_79 (by decide) ?_
                  have e4 : prs φ it x ++ prA φ x (m + 1) = (prs φ it x ++ prA φ x m) ++ [(x, x + 1 + m)] := by rw [prA, if_pos (by omega), List.append_assoc]
                  rw [show ((prs φ it x ++ prA φ x m).length : Int) + 1 = ((prs φ it x ++ prA φ x (m + 1)).length : Int) by rw [e4, show (prs φ it x ++ prA φ x m ++ [(x, x + 1 + m)]).length = (prs φ it x ++ prA φ x m).length + 1 from List.length_append]; rfl] at ha__7
                  exact ih19 (m + 1) (fu F2 (prs φ it x ++ prA φ x m).length (x : Int)) (fu S2 (prs φ it x ++ prA φ x m).length ((x + 1 + m : Nat) : Int)) h73 ha__7 hf__7 hs__7 hy__7 hx__7 hb__7 fr__7 (by omega) (by rw [e4]; exact hpr2.add) (fun q hq => (congrFun eh73 q).trans ((hup_n (by omega)).trans ((congrFun eh65 q).trans ((hup_n (by omega)).trans ((congrFun eh55 q).trans ((hup_n (by omega)).trans (hup2 q hq))))))) (by omega)
        rw [show (prs φ it x).length = (prs φ it x ++ prA φ x 0).length by rw [prA, List.append_nil]] at ha__1
        exact K19 _ 0 F1 S1 h7 ha__1 hf__1 hs__1 hy__1 hx__1 hb__1 fr__1 (Nat.zero_le _) (by rw [prA, List.append_nil]; exact hpr) hup (Nat.lt_succ_self _)
  exact K7 _ 0 F S h2 ha_ hf_ hs_ hy_ hx_ hb_ fr_ (Nat.zero_le _) (fun i hi => absurd hi (Nat.not_lt_zero i)) (fun q hq => (congrFun eh2 q).trans (hup_n (by omega))) (Nat.lt_succ_self _)

