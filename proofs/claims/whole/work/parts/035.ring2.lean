/-! the best sums, fact by fact; a ring that is hit can be laid -/
def mxK (φ : Fs) (w : Nat) (b : Nat → Int) (p : Nat) : Nat → Int
  | 0 => -1000000000
  | c + 1 => if w / 2 ^ c % 2 = 0 ∧ ¬ tgt φ c p = -1 ∧ ¬ b (tgt φ c p).toNat = -1000000000 ∧ mxK φ w b p c < b (tgt φ c p).toNat + wt (kd φ c) then b (tgt φ c p).toNat + wt (kd φ c) else mxK φ w b p c
def bst (φ : Fs) (w x : Nat) : Nat → Nat → Int
  | 0, p => if p = x then 0 else -1000000000
  | l + 1, p => mxK φ w (bst φ w x l) p φ.length
theorem fwK_low {φ : Fs} {w n : Nat} {S : Nat → Int} {it : Nat} (hS : Sm it φ) : ∀ c, c ≤ φ.length → ∀ j, j < n * 8 ∨ (n + 1) * 8 ≤ j → fwK φ w n S c j = S j
  | 0, _, j, _ => rfl
  | c + 1, hc, j, hj => by
    have ih := fwK_low (w := w) (n := n) (S := S) hS c (by omega) j hj
    have b := hS.2.2 c (by omega)
    have h8 := hS.1
    have key : ∀ (T : Nat → Int) (u v : Nat) (d : Int), u < 8 → rsF T n u v d j = T j := fun T u v d hu => by unfold rsF; split; rfl; exact fu_n (by omega)
    unfold fwK
    split
    · split
      · rw [key _ _ _ _ (by omega), key _ _ _ _ (by omega)]; exact ih
      · rw [key _ _ _ _ (by omega)]; exact ih
    · exact ih
theorem fwK_mx {φ : Fs} {w n : Nat} {S : Nat → Int} {it : Nat} (hS : Sm it φ) (hn : 1 ≤ n) (h0 : ∀ p, p < 8 → S (n * 8 + p) = -1000000000) : ∀ c, c ≤ φ.length → ∀ p, p < 8 → fwK φ w n S c (n * 8 + p) = mxK φ w (fun q => S ((n - 1) * 8 + q)) p c
  | 0, _, p, hp => h0 p hp
  | c + 1, hc, p, hp => by
    have ih := fwK_mx (w := w) hS hn h0 c (by omega) p hp
    have b := hS.2.2 c (by omega)
    have h8 := hS.1
    have lw : ∀ q, q < 8 → fwK φ w n S c ((n - 1) * 8 + q) = S ((n - 1) * 8 + q) := fun q hq => fwK_low hS c (by omega) _ (by omega)
    have low : ∀ (T : Nat → Int) (u v : Nat) (d : Int) (q : Nat), u < 8 → q < 8 → rsF T n u v d ((n - 1) * 8 + q) = T ((n - 1) * 8 + q) := fun T u v d q hu hq => by unfold rsF; split; rfl; exact fu_n (by omega)
    have at1 : ∀ (T : Nat → Int) (u v : Nat) (d : Int), u < 8 → rsF T n u v d (n * 8 + p) = if p = u ∧ ¬ T ((n - 1) * 8 + v) = -1000000000 ∧ T (n * 8 + u) < T ((n - 1) * 8 + v) + d then T ((n - 1) * 8 + v) + d else T (n * 8 + p) := by
      intro T u v d hu
      unfold rsF
      by_cases e : p = u
      · subst e
        by_cases q : T ((n - 1) * 8 + v) = -1000000000 ∨ T ((n - 1) * 8 + v) + d ≤ T (n * 8 + p)
        · rw [if_pos q, if_neg (by omega)]
        · rw [if_neg q, fu_s, if_pos (by omega)]
      · rw [if_neg (show ¬ (p = u ∧ _) from fun z => e z.1)]
        split
        · rfl
        · exact fu_n (by omega)
    rw [fwK, mxK]
    by_cases hw : w / 2 ^ c % 2 = 0
    · rw [if_pos hw]
      by_cases hk : kd φ c = 1
      · rw [if_pos hk, at1 _ _ _ _ (by omega), low _ _ _ _ _ (by omega) (by omega), at1 _ _ _ _ (by omega), lw _ (by omega), lw _ (by omega)]
        have e2 : rsF (fwK φ w n S c) n (fi φ c) (se φ c) (wt (kd φ c)) (n * 8 + se φ c) = fwK φ w n S c (n * 8 + se φ c) := by
          unfold rsF; split; rfl; exact fu_n (by omega)
        rw [e2, show wt (kd φ c) = -1 by rw [hk]; rfl]
        by_cases p1 : p = fi φ c
        · have et : tgt φ c p = se φ c := by unfold tgt; rw [if_pos (by omega)]
          rw [et, Int.toNat_natCast, ih, ← p1, ih, if_neg (by omega)]
          by_cases q : ¬ S ((n - 1) * 8 + se φ c) = -1000000000 ∧ mxK φ w (fun q => S ((n - 1) * 8 + q)) p c < S ((n - 1) * 8 + se φ c) + -1
          · rw [if_pos ⟨rfl, q⟩, if_pos ⟨hw, by omega, q⟩]
          · rw [if_neg (fun z => q z.2), if_neg (fun z => q z.2.2)]
        · by_cases p2 : p = se φ c
          · have et : tgt φ c p = fi φ c := by unfold tgt; rw [if_neg (by omega), if_pos ⟨hk, by omega⟩]
            rw [et, Int.toNat_natCast, ← p2, ih]
            rw [if_neg (show ¬ (p = fi φ c ∧ _) from fun z => p1 z.1)]
            by_cases q : ¬ S ((n - 1) * 8 + fi φ c) = -1000000000 ∧ mxK φ w (fun q => S ((n - 1) * 8 + q)) p c < S ((n - 1) * 8 + fi φ c) + -1
            · rw [if_pos ⟨rfl, q⟩, if_pos ⟨hw, by omega, q⟩]
            · rw [if_neg (fun z => q z.2), if_neg (fun z => q z.2.2)]
          · have et : tgt φ c p = -1 := by unfold tgt; rw [if_neg (by omega), if_neg (by omega)]
            rw [if_neg (fun z => p2 z.1), if_neg (fun z => p1 z.1), if_neg (fun z => z.2.1 et), ih]
      · rw [if_neg hk, at1 _ _ _ _ (by omega), lw _ (by omega)]
        by_cases p1 : p = fi φ c
        · have et : tgt φ c p = se φ c := by unfold tgt; rw [if_pos (by omega)]
          rw [et, Int.toNat_natCast, ← p1, ih]
          by_cases q : ¬ S ((n - 1) * 8 + se φ c) = -1000000000 ∧ mxK φ w (fun q => S ((n - 1) * 8 + q)) p c < S ((n - 1) * 8 + se φ c) + wt (kd φ c)
          · rw [if_pos ⟨rfl, q⟩, if_pos ⟨hw, by omega, q⟩]
          · rw [if_neg (fun z => q z.2), if_neg (fun z => q z.2.2)]
        · have et : tgt φ c p = -1 := by unfold tgt; rw [if_neg (by omega), if_neg (by omega)]
          rw [if_neg (fun z => p1 z.1), if_neg (fun z => z.2.1 et), ih]
    · rw [if_neg hw, if_neg (fun z => hw z.1), ih]
theorem fwL_hi {φ : Fs} {w x it : Nat} (hS : Sm it φ) (hx : x < 8) : ∀ m j, (m + 1) * 8 ≤ j → fwL φ w x m j = -1000000000
  | 0, j, hj => by unfold fwL fwB; rw [if_neg (by omega)]
  | m + 1, j, hj => by unfold fwL; rw [fwK_low hS _ (Nat.le_refl _) _ (by omega)]; exact fwL_hi hS hx m j (by omega)
theorem fwL_bst {φ : Fs} {w x it : Nat} (hS : Sm it φ) (hx : x < 8) : ∀ m l, l ≤ m → ∀ p, p < 8 → fwL φ w x m (l * 8 + p) = bst φ w x l p
  | 0, l, hl, p, hp => by rw [show l = 0 by omega]; unfold fwL fwB bst; simp only [Nat.zero_mul, Nat.zero_add]
  | m + 1, l, hl, p, hp => by
    have ih := fwL_bst (w := w) hS hx m
    by_cases e : l = m + 1
    · subst e
      unfold fwL bst
      rw [fwK_mx hS (by omega) (fun q hq => fwL_hi hS hx m _ (by omega)) _ (Nat.le_refl _) p hp]
      have : ∀ c, c ≤ φ.length → mxK φ w (fun q => fwL φ w x m ((m + 1 - 1) * 8 + q)) p c = mxK φ w (bst φ w x m) p c := by
        intro c
        induction c with
        | zero => intro _; rfl
        | succ c ihc =>
          intro hc
          have t := tgt_b (p := (p : Int)) hS (show c < φ.length by omega)
          have h8 := hS.1
          rw [mxK, mxK, ihc (by omega)]
          by_cases q : tgt φ c p = -1
          · rw [if_neg (fun z => z.2.1 q), if_neg (fun z => z.2.1 q)]
          · rw [show fwL φ w x m ((m + 1 - 1) * 8 + (tgt φ c p).toNat) = bst φ w x m (tgt φ c p).toNat by rw [Nat.add_sub_cancel]; exact ih m (Nat.le_refl m) _ (by omega)]
      exact this _ (Nat.le_refl _)
    · unfold fwL
      rw [fwK_low hS _ (Nat.le_refl _) _ (by omega)]
      exact ih l (by omega) p hp
/-- what is best is come to by some fact -/
theorem mxK_by {φ : Fs} {w : Nat} {b : Nat → Int} {p : Nat} : ∀ c, mxK φ w b p c = -1000000000 ∨ ∃ k, k < c ∧ w / 2 ^ k % 2 = 0 ∧ ¬ tgt φ k p = -1 ∧ ¬ b (tgt φ k p).toNat = -1000000000 ∧ mxK φ w b p c = b (tgt φ k p).toNat + wt (kd φ k)
  | 0 => Or.inl rfl
  | c + 1 => by
    rw [mxK]
    split
    · rename_i q
      exact Or.inr ⟨c, by omega, q.1, q.2.1, q.2.2.1, rfl⟩
    · rcases mxK_by c with h | ⟨k, h1, h2⟩
      · exact Or.inl h
      · exact Or.inr ⟨k, by omega, h2⟩
theorem tr_go {φ : Fs} {w x it k y n : Nat} (hS : Sm it φ) (hx : x < it) (hy : y < it) (hn : n < it) (hh : hit φ w k x y n) : ∀ i, i ≤ n → (∀ j, j < i → ¬ trK φ w (fwL φ w x n) k y n j = -1) ∧ (trS φ w (fwL φ w x n) k y n i).1 < it ∧ ¬ bst φ w x (n - i) (trS φ w (fwL φ w x n) k y n i).1 = -1000000000 ∧ 0 ≤ (trS φ w (fwL φ w x n) k y n i).2.1 + bst φ w x (n - i) (trS φ w (fwL φ w x n) k y n i).1
  | 0, _ => by
    have h8 := hS.1
    obtain ⟨h1, h2, h3⟩ := hh
    rw [fwL_bst hS (by omega) n n (Nat.le_refl n) y (by omega)] at h2 h3
    refine ⟨fun j hj => absurd hj (Nat.not_lt_zero j), hy, h2, ?_⟩
    show 0 ≤ wt k + bst φ w x n y
    omega
  | i + 1, hi => by
    have h8 := hS.1
    obtain ⟨g0, g1, g2, g3⟩ := tr_go hS hx hy hn hh i (by omega)
    have e1 : n - i = n - 1 - i + 1 := by omega
    have hst : ∃ m, m < φ.length ∧ stp φ w (fwL φ w x n) (trS φ w (fwL φ w x n) k y n i).1 (trS φ w (fwL φ w x n) k y n i).2.1 (n - 1 - i) m := by
      rw [e1] at g2 g3
      rcases mxK_by (φ := φ) (w := w) (b := bst φ w x (n - 1 - i)) (p := (trS φ w (fwL φ w x n) k y n i).1) φ.length with h | ⟨m, h1, h2, h3, h4, h5⟩
      · exact absurd h g2
      · have t := tgt_b (p := ((trS φ w (fwL φ w x n) k y n i).1 : Int)) hS h1
        have eb : fwL φ w x n ((n - 1 - i) * 8 + (tgt φ m (trS φ w (fwL φ w x n) k y n i).1).toNat) = bst φ w x (n - 1 - i) (tgt φ m (trS φ w (fwL φ w x n) k y n i).1).toNat := fwL_bst hS (by omega) n _ (by omega) _ (by omega)
        refine ⟨m, h1, h2, h3, by rw [eb]; exact h4, ?_⟩
        rw [eb]
        rw [bst, h5] at g3
        omega
    have hk : ¬ trK φ w (fwL φ w x n) k y n i = -1 := by
      rcases sr_is (P := stp φ w (fwL φ w x n) (trS φ w (fwL φ w x n) k y n i).1 (trS φ w (fwL φ w x n) k y n i).2.1 (n - 1 - i)) (n := φ.length) with ⟨e, hno⟩ | ⟨m, e, -⟩
      · obtain ⟨m, hm, hp⟩ := hst
        exact absurd hp (hno m hm)
      · unfold trK; omega
    have g0' : ∀ j, j < i + 1 → ¬ trK φ w (fwL φ w x n) k y n j = -1 := lt_s2 g0 hk
    rcases sr_is (P := stp φ w (fwL φ w x n) (trS φ w (fwL φ w x n) k y n i).1 (trS φ w (fwL φ w x n) k y n i).2.1 (n - 1 - i)) (n := φ.length) with ⟨e, -⟩ | ⟨m, e, hm, hp, -⟩
    · exact absurd e hk
    · have e2 : (trK φ w (fwL φ w x n) k y n i).toNat = m := by unfold trK; rw [e]; rfl
      have t := tgt_b (p := ((trS φ w (fwL φ w x n) k y n i).1 : Int)) hS hm
      obtain ⟨-, p2, p3, p4⟩ := hp
      have eb : fwL φ w x n ((n - 1 - i) * 8 + (tgt φ m (trS φ w (fwL φ w x n) k y n i).1).toNat) = bst φ w x (n - 1 - i) (tgt φ m (trS φ w (fwL φ w x n) k y n i).1).toNat := fwL_bst hS (by omega) n _ (by omega) _ (by omega)
      rw [eb] at p3 p4
      rw [trS_s, e2]
      refine ⟨g0', by dsimp only; omega, ?_, ?_⟩
      · rw [show n - (i + 1) = n - 1 - i by omega]; exact p3
      · rw [show n - (i + 1) = n - 1 - i by omega]; exact p4
/-- by how many others, from where to where the ring goes that refutes: 0 others: it is not refuted -/
noncomputable def skN (φ : Fs) (w it k x y : Nat) : Nat × Nat × Nat := if fews φ w it k x y ≠ 0 ∧ ((if k = 1 then fews φ w it k y x else 0) = 0 ∨ fews φ w it k x y ≤ (if k = 1 then fews φ w it k y x else 0)) then (fews φ w it k x y, x, y) else ((if k = 1 then fews φ w it k y x else 0), y, x)
def Told (G : Gx) (h : Hp) (a : Nat) (φ : Fs) (w k n x y : Nat) : Prop := ∃ r1 : Nat → Int, GA G h a ((n : Int) + 1) (trS φ w (fwL φ w x n) k y n n).2.2 x y r1 (fwL φ w x n) ∧ ∀ i, i < n → r1 i = trK φ w (fwL φ w x n) k y n i
set_option maxHeartbeats 600000 in
set_option maxRecDepth 100000 in
theorem c_X5_seek {G : Gx} {h : Hp} {nx a : Nat} {n0 c0 x0 y0 : Int} {r0 S0 : Nat → Int} (hA : GA G h a n0 c0 x0 y0 r0 S0) {b it : Nat} {φ : Fs} (hF : FA G h b it φ) (hS : Sm it φ) (hd : a + 2 < b ∨ b + 3 < a) {w : Nat} (hw2 : w < 268435456) {k1 x y : Nat} (hk : k1 ≤ 1) (hx : x < it) (hy : y < it) : Con G yX5_seek cX5_seek 8 (some .boolean) 4 0 0 [.ref a, .ref b, vi (w : Int), vi (k1 : Int), vi (x : Int), vi (y : Int)] h nx (PI fun z h' => bz (0 < (skN φ w it k1 x y).1) z ∧ (0 < (skN φ w it k1 x y).1 → Told G h' a φ w k1 (skN φ w it k1 x y).1 (skN φ w it k1 x y).2.1 (skN φ w it k1 x y).2.2) ∧ (¬ 0 < (skN φ w it k1 x y).1 → ∃ S1, GA G h' a n0 c0 x0 y0 r0 S1) ∧ ∀ q : Nat, (q < a ∨ a + 2 < q) → h' q = h q) := by
  have hF0 := hF
  obtain ⟨ha, hw, hm⟩ := hA
  obtain ⟨K, F, Z, hb, hbk, hbf, hbs, hr⟩ := hF
  obtain ⟨h8, h28, hsm⟩ := id hS
  have f1 := fews_is φ w it k1 x y
  have f2 := fews_is φ w it k1 y x
  refine Con.of v_X5_seek.2.2.2.2.2.1 (Nat.le_of_ble_eq_true rfl) (lv := [(0, .ref a), (1, .ref b), (2, vi (w : Int)), (3, vi (k1 : Int)), (4, vi (x : Int)), (5, vi (y : Int))]) rfl (fun X k => ?_)
  generalize hQQ : QM G X nx 0 0 _ = QQ
  have fr0 : ∀ q : Nat, (q < a ∨ a + 2 < q) → h q = h q := fun _ _ => rfl
  have K20 : ∀ (bk : Nat) (S2 : Nat → Int) (h20 : Hp) (ha_ : h20 a = some (ob 5 [vi n0, vi c0, vi x0, vi y0, .ref (a + 1), .ref (a + 2)])) (hm_ : h20 (a + 2) = some (ai G 64 S2)) (hw_ : h20 (a + 1) = some (ai G 8 r0)) (hb_ : h20 b = some (ob 0 [vi (it : Int), vi (φ.length : Int), .ref (b + 1), .ref (b + 2), .ref (b + 3)])) (fr_ : ∀ q : Nat, (q < a ∨ a + 2 < q) → h20 q = h q) (hbk2 : bk = if k1 = 1 then fews φ w it k1 y x else 0), Go G X 8 QQ 0 0 nx 20 [(0, .ref a), (1, .ref b), (2, vi (w : Int)), (3, vi (k1 : Int)), (4, vi (x : Int)), (5, vi (y : Int))] [vi (bk : Int)] h20 := by
    intro bk S2 h20 ha_ hm_ hw_ hb_ fr_ hbk2
    have hb9 : bk < 8 := by rw [hbk2]; split <;> omega
    refine g_istore k (lv2 := [(0, .ref a), (1, .ref b), (2, vi (w : Int)), (3, vi (k1 : Int)), (4, vi (x : Int)), (5, vi (y : Int)), (6, vi (bk : Int))]) (by decide) rfl rfl dX5_seek_20 ?_
    refine g_aload_n k rfl dX5_seek_22 ?_
    refine g_aload_n k rfl dX5_seek_23 ?_
    refine g_iload_n k rfl dX5_seek_24 ?_
    refine g_iload_n k rfl dX5_seek_25 ?_
    refine g_iload k rfl dX5_seek_26 ?_
    refine g_iload k rfl dX5_seek_28 ?_
    refine g_cVi k 5 (As := [.ref b, vi (w : Int), vi (k1 : Int), vi (x : Int), vi (y : Int)]) v_X5_fewest rfl rfl ha_ ml_X5_18 (c_X5_fewest ⟨ha_, hw_, hm_⟩ (hF0.keep (fun q g1 g2 => fr_ q (by omega))) hS hd hw2 hk hx hy) (by omega) (by omega) rfl (Nat.le_of_ble_eq_true rfl) rfl dX5_seek_30 (fun r30 h30 p30 => ?_)
    obtain ⟨p30e, ⟨S4, ⟨na, nw, nm⟩, S4q⟩, nfr⟩ := p30
    subst p30e
    have ha__1 : h30 a = some (ob 5 [vi n0, vi c0, vi x0, vi y0, .ref (a + 1), .ref (a + 2)]) := na
    have hm__1 : h30 (a + 2) = some (ai G 64 S4) := nm
    have hw__1 : h30 (a + 1) = some (ai G 8 r0) := nw
    have hb__1 : h30 b = some (ob 0 [vi (it : Int), vi (φ.length : Int), .ref (b + 1), .ref (b + 2), .ref (b + 3)]) := (nfr _ (by omega)).trans hb_
    have fr__1 : ∀ q : Nat, (q < a ∨ a + 2 < q) → h30 q = h q := fun q hq => (nfr q (by omega)).trans (fr_ q hq)
    refine g_istore k (lv2 := [(0, .ref a), (1, .ref b), (2, vi (w : Int)), (3, vi (k1 : Int)), (4, vi (x : Int)), (5, vi (y : Int)), (6, vi (bk : Int)), (7, vi (fews φ w it k1 x y : Int))]) (by decide) rfl rfl dX5_seek_33 ?_
    refine g_iload k rfl dX5_seek_35 ?_
    refine g_if_eq k (tgt := 67) (by omega) dX5_seek_37 (by decide) (fun c37 => ?_) (fun c37 => ?_)
    · skip
      refine g_iload k rfl dX5_seek_67 ?_
      refine g_if_ne k (tgt := 74) (by omega) dX5_seek_69 (by decide) (fun c69 => ?_) (fun c69 => ?_)
      · skip
        have ek : k1 = 1 := by
          rcases Nat.lt_or_ge k1 1 with q | q
          · rw [if_neg (by omega)] at hbk2; omega
          · omega
        have ebk : bk = fews φ w it k1 y x := by rw [hbk2, if_pos ek]
        refine g_aload_n k rfl dX5_seek_74 ?_
        refine g_aload_n k rfl dX5_seek_75 ?_
        refine g_iload_n k rfl dX5_seek_76 ?_
        refine g_iload_n k rfl dX5_seek_77 ?_
        refine g_iload k rfl dX5_seek_78 ?_
        refine g_iload k rfl dX5_seek_80 ?_
        refine g_cVi k 5 (As := [.ref b, vi (w : Int), vi (k1 : Int), vi (y : Int), vi (x : Int)]) v_X5_fewest rfl rfl ha__1 ml_X5_18 (c_X5_fewest ⟨ha__1, hw__1, hm__1⟩ (hF0.keep (fun q g1 g2 => fr__1 q (by omega))) hS hd hw2 hk hy hx) (by omega) (by omega) rfl (Nat.le_of_ble_eq_true rfl) rfl dX5_seek_82 (fun r82 h82 p82 => ?_)
        obtain ⟨p82e, ⟨S5, ⟨na, nw, nm⟩, S5q⟩, nfr⟩ := p82
        subst p82e
        have ha__2 : h82 a = some (ob 5 [vi n0, vi c0, vi x0, vi y0, .ref (a + 1), .ref (a + 2)]) := na
        have hm__2 : h82 (a + 2) = some (ai G 64 S5) := nm
        have hw__2 : h82 (a + 1) = some (ai G 8 r0) := nw
        have hb__2 : h82 b = some (ob 0 [vi (it : Int), vi (φ.length : Int), .ref (b + 1), .ref (b + 2), .ref (b + 3)]) := (nfr _ (by omega)).trans hb__1
        have fr__2 : ∀ q : Nat, (q < a ∨ a + 2 < q) → h82 q = h q := fun q hq => (nfr q (by omega)).trans (fr__1 q hq)
        have S5q2 : S5 = fwL φ w y bk := by rw [ebk]; exact S5q (by omega)
        refine g_pop k rfl dX5_seek_85 ?_
        refine g_aload_n k rfl dX5_seek_86 ?_
        refine g_aload_n k rfl dX5_seek_87 ?_
        refine g_iload_n k rfl dX5_seek_88 ?_
        refine g_iload_n k rfl dX5_seek_89 ?_
        refine g_iload k rfl dX5_seek_90 ?_
        refine g_iload k rfl dX5_seek_92 ?_
        refine g_iload k rfl dX5_seek_94 ?_
        refine g_cVv k 5 (As := [.ref b, vi (w : Int), vi (k1 : Int), vi (y : Int), vi (x : Int), vi (bk : Int)]) v_X5_trace rfl rfl ha__2 ml_X5_22 (c_X5_trace ⟨ha__2, hw__2, hm__2⟩ (by rw [S5q2]; exact fwL_ls hS (by omega) _ (by omega)) (hF0.keep (fun q g1 g2 => fr__2 q (by omega))) hS hd hw2 hk hy hx (n := bk) (by omega) (by rw [S5q2]; exact (tr_go hS hy hx (by omega) (by rw [ebk]; exact (f2.resolve_left (fun q => by omega)).2.2.1) _ (Nat.le_refl _)).1)) (by omega) (by omega) rfl (Nat.le_of_ble_eq_true rfl) rfl dX5_seek_96 (fun h96 p96 => ?_)
        obtain ⟨⟨r9, ⟨na, nw, nm⟩, hr9⟩, nfr⟩ := p96
        have hb__3 : h96 b = some (ob 0 [vi (it : Int), vi (φ.length : Int), .ref (b + 1), .ref (b + 2), .ref (b + 3)]) := (nfr _ (by omega)).trans hb__2
        have fr__3 : ∀ q : Nat, (q < a ∨ a + 2 < q) → h96 q = h q := fun q hq => (nfr q (by omega)).trans (fr__2 q hq)
        refine g_iconst k dX5_seek_99 ?_
        rw [← hQQ]
        refine g_zreti k (by omega) rfl dX5_seek_100 ?_
        have e : skN φ w it k1 x y = (bk, y, x) := by rw [skN, if_neg (by rw [← hbk2]; omega), ← hbk2]
        rw [e]
        refine ⟨bz.y (by dsimp only; omega), fun _ => ⟨r9, ?_⟩, fun q => absurd (show 0 < bk by omega) q, fr__3⟩
        rw [S5q2] at na nm hr9
        exact ⟨⟨na, nw, nm⟩, hr9⟩
      · skip
        refine g_iconst k dX5_seek_72 ?_
        rw [← hQQ]
        refine g_zreti k (by omega) rfl dX5_seek_73 ?_
        have e : skN φ w it k1 x y = (bk, y, x) := by rw [skN, if_neg (by rw [← hbk2]; omega), ← hbk2]
        rw [e]
        exact ⟨bz.n (by dsimp only; omega), fun q => by dsimp only at q; omega, fun _ => ⟨_, ha__1, hw__1, hm__1⟩, fr__1⟩
    · skip
      refine g_iload k rfl dX5_seek_40 ?_
      refine g_if_eq k (tgt := 52) (by omega) dX5_seek_42 (by decide) (fun c42 => ?_) (fun c42 => ?_)
      · skip
        refine g_aload_n k rfl dX5_seek_52 ?_
        refine g_aload_n k rfl dX5_seek_53 ?_
        refine g_iload_n k rfl dX5_seek_54 ?_
        refine g_iload_n k rfl dX5_seek_55 ?_
        refine g_iload k rfl dX5_seek_56 ?_
        refine g_iload k rfl dX5_seek_58 ?_
        refine g_iload k rfl dX5_seek_60 ?_
        refine g_cVv k 5 (As := [.ref b, vi (w : Int), vi (k1 : Int), vi (x : Int), vi (y : Int), vi (fews φ w it k1 x y : Int)]) v_X5_trace rfl rfl ha__1 ml_X5_22 (c_X5_trace ⟨ha__1, hw__1, hm__1⟩ (by rw [S4q (by omega)]; exact fwL_ls hS (by omega) _ (by omega)) (hF0.keep (fun q g1 g2 => fr__1 q (by omega))) hS hd hw2 hk hx hy (n := fews φ w it k1 x y) (by omega) (by rw [S4q (by omega)]; exact (tr_go hS hx hy (by omega) (f1.resolve_left (fun q => by omega)).2.2.1 _ (Nat.le_refl _)).1)) (by omega) (by omega) rfl (Nat.le_of_ble_eq_true rfl) rfl dX5_seek_62 (fun h62 p62 => ?_)
        obtain ⟨⟨r9, ⟨na, nw, nm⟩, hr9⟩, nfr⟩ := p62
        have hb__4 : h62 b = some (ob 0 [vi (it : Int), vi (φ.length : Int), .ref (b + 1), .ref (b + 2), .ref (b + 3)]) := (nfr _ (by omega)).trans hb__1
        have fr__4 : ∀ q : Nat, (q < a ∨ a + 2 < q) → h62 q = h q := fun q hq => (nfr q (by omega)).trans (fr__1 q hq)
        refine g_iconst k dX5_seek_65 ?_
        rw [← hQQ]
        refine g_zreti k (by omega) rfl dX5_seek_66 ?_
        have e : skN φ w it k1 x y = (fews φ w it k1 x y, x, y) := by rw [skN, if_pos ⟨by omega, by rw [← hbk2]; omega⟩]
        rw [e]
        refine ⟨bz.y (by dsimp only; omega), fun _ => ⟨r9, ?_⟩, fun q => absurd (show 0 < fews φ w it k1 x y by omega) q, fr__4⟩
        rw [S4q (by omega)] at na nm hr9
        exact ⟨⟨na, nw, nm⟩, hr9⟩
      · skip
        refine g_iload k rfl dX5_seek_45 ?_
        refine g_iload k rfl dX5_seek_47 ?_
        refine g_icmp_gt k (tgt := 67) (by omega) (by omega) dX5_seek_49 (by decide) (fun c49 => ?_) (fun c49 => ?_)
        · skip
          refine g_iload k rfl dX5_seek_67 ?_
          refine g_if_ne k (tgt := 74) (by omega) dX5_seek_69 (by decide) (fun c69_1 => ?_) (fun c69_1 => ?_)
          · skip
            have ek : k1 = 1 := by
              rcases Nat.lt_or_ge k1 1 with q | q
              · rw [if_neg (by omega)] at hbk2; omega
              · omega
            have ebk : bk = fews φ w it k1 y x := by rw [hbk2, if_pos ek]
            refine g_aload_n k rfl dX5_seek_74 ?_
            refine g_aload_n k rfl dX5_seek_75 ?_
            refine g_iload_n k rfl dX5_seek_76 ?_
            refine g_iload_n k rfl dX5_seek_77 ?_
            refine g_iload k rfl dX5_seek_78 ?_
            refine g_iload k rfl dX5_seek_80 ?_
            refine g_cVi k 5 (As := [.ref b, vi (w : Int), vi (k1 : Int), vi (y : Int), vi (x : Int)]) v_X5_fewest rfl rfl ha__1 ml_X5_18 (c_X5_fewest ⟨ha__1, hw__1, hm__1⟩ (hF0.keep (fun q g1 g2 => fr__1 q (by omega))) hS hd hw2 hk hy hx) (by omega) (by omega) rfl (Nat.le_of_ble_eq_true rfl) rfl dX5_seek_82 (fun r82_1 h82_1 p82_1 => ?_)
            obtain ⟨p82_1e, ⟨S5, ⟨na, nw, nm⟩, S5q⟩, nfr⟩ := p82_1
            subst p82_1e
            have ha__5 : h82_1 a = some (ob 5 [vi n0, vi c0, vi x0, vi y0, .ref (a + 1), .ref (a + 2)]) := na
            have hm__5 : h82_1 (a + 2) = some (ai G 64 S5) := nm
            have hw__5 : h82_1 (a + 1) = some (ai G 8 r0) := nw
            have hb__5 : h82_1 b = some (ob 0 [vi (it : Int), vi (φ.length : Int), .ref (b + 1), .ref (b + 2), .ref (b + 3)]) := (nfr _ (by omega)).trans hb__1
            have fr__5 : ∀ q : Nat, (q < a ∨ a + 2 < q) → h82_1 q = h q := fun q hq => (nfr q (by omega)).trans (fr__1 q hq)
            have S5q2 : S5 = fwL φ w y bk := by rw [ebk]; exact S5q (by omega)
            refine g_pop k rfl dX5_seek_85 ?_
            refine g_aload_n k rfl dX5_seek_86 ?_
            refine g_aload_n k rfl dX5_seek_87 ?_
            refine g_iload_n k rfl dX5_seek_88 ?_
            refine g_iload_n k rfl dX5_seek_89 ?_
            refine g_iload k rfl dX5_seek_90 ?_
            refine g_iload k rfl dX5_seek_92 ?_
            refine g_iload k rfl dX5_seek_94 ?_
            refine g_cVv k 5 (As := [.ref b, vi (w : Int), vi (k1 : Int), vi (y : Int), vi (x : Int), vi (bk : Int)]) v_X5_trace rfl rfl ha__5 ml_X5_22 (c_X5_trace ⟨ha__5, hw__5, hm__5⟩ (by rw [S5q2]; exact fwL_ls hS (by omega) _ (by omega)) (hF0.keep (fun q g1 g2 => fr__5 q (by omega))) hS hd hw2 hk hy hx (n := bk) (by omega) (by rw [S5q2]; exact (tr_go hS hy hx (by omega) (by rw [ebk]; exact (f2.resolve_left (fun q => by omega)).2.2.1) _ (Nat.le_refl _)).1)) (by omega) (by omega) rfl (Nat.le_of_ble_eq_true rfl) rfl dX5_seek_96 (fun h96_1 p96_1 => ?_)
            obtain ⟨⟨r9, ⟨na, nw, nm⟩, hr9⟩, nfr⟩ := p96_1
            have hb__6 : h96_1 b = some (ob 0 [vi (it : Int), vi (φ.length : Int), .ref (b + 1), .ref (b + 2), .ref (b + 3)]) := (nfr _ (by omega)).trans hb__5
            have fr__6 : ∀ q : Nat, (q < a ∨ a + 2 < q) → h96_1 q = h q := fun q hq => (nfr q (by omega)).trans (fr__5 q hq)
            refine g_iconst k dX5_seek_99 ?_
            rw [← hQQ]
            refine g_zreti k (by omega) rfl dX5_seek_100 ?_
            have e : skN φ w it k1 x y = (bk, y, x) := by rw [skN, if_neg (by rw [← hbk2]; omega), ← hbk2]
            rw [e]
            refine ⟨bz.y (by dsimp only; omega), fun _ => ⟨r9, ?_⟩, fun q => absurd (show 0 < bk by omega) q, fr__6⟩
            rw [S5q2] at na nm hr9
            exact ⟨⟨na, nw, nm⟩, hr9⟩
          · skip
            refine g_iconst k dX5_seek_72 ?_
            rw [← hQQ]
            refine g_zreti k (by omega) rfl dX5_seek_73 ?_
            have e : skN φ w it k1 x y = (bk, y, x) := by rw [skN, if_neg (by rw [← hbk2]; omega), ← hbk2]
            rw [e]
            exact ⟨bz.n (by dsimp only; omega), fun q => by dsimp only at q; omega, fun _ => ⟨_, ha__1, hw__1, hm__1⟩, fr__1⟩
        · skip
          refine g_aload_n k rfl dX5_seek_52 ?_
          refine g_aload_n k rfl dX5_seek_53 ?_
          refine g_iload_n k rfl dX5_seek_54 ?_
          refine g_iload_n k rfl dX5_seek_55 ?_
          refine g_iload k rfl dX5_seek_56 ?_
          refine g_iload k rfl dX5_seek_58 ?_
          refine g_iload k rfl dX5_seek_60 ?_
          refine g_cVv k 5 (As := [.ref b, vi (w : Int), vi (k1 : Int), vi (x : Int), vi (y : Int), vi (fews φ w it k1 x y : Int)]) v_X5_trace rfl rfl ha__1 ml_X5_22 (c_X5_trace ⟨ha__1, hw__1, hm__1⟩ (by rw [S4q (by omega)]; exact fwL_ls hS (by omega) _ (by omega)) (hF0.keep (fun q g1 g2 => fr__1 q (by omega))) hS hd hw2 hk hx hy (n := fews φ w it k1 x y) (by omega) (by rw [S4q (by omega)]; exact (tr_go hS hx hy (by omega) (f1.resolve_left (fun q => by omega)).2.2.1 _ (Nat.le_refl _)).1)) (by omega) (by omega) rfl (Nat.le_of_ble_eq_true rfl) rfl dX5_seek_62 (fun h62_1 p62_1 => ?_)
          obtain ⟨⟨r9, ⟨na, nw, nm⟩, hr9⟩, nfr⟩ := p62_1
          have hb__7 : h62_1 b = some (ob 0 [vi (it : Int), vi (φ.length : Int), .ref (b + 1), .ref (b + 2), .ref (b + 3)]) := (nfr _ (by omega)).trans hb__1
          have fr__7 : ∀ q : Nat, (q < a ∨ a + 2 < q) → h62_1 q = h q := fun q hq => (nfr q (by omega)).trans (fr__1 q hq)
          refine g_iconst k dX5_seek_65 ?_
          rw [← hQQ]
          refine g_zreti k (by omega) rfl dX5_seek_66 ?_
          have e : skN φ w it k1 x y = (fews φ w it k1 x y, x, y) := by rw [skN, if_pos ⟨by omega, by rw [← hbk2]; omega⟩]
          rw [e]
          refine ⟨bz.y (by dsimp only; omega), fun _ => ⟨r9, ?_⟩, fun q => absurd (show 0 < fews φ w it k1 x y by omega) q, fr__7⟩
          rw [S4q (by omega)] at na nm hr9
          exact ⟨⟨na, nw, nm⟩, hr9⟩
  refine g_iload_n k rfl dX5_seek_0 ?_
  refine g_iconst k dX5_seek_1 ?_
  refine g_icmp_ne k (tgt := 19) (by omega) (by omega) dX5_seek_2 (by decide) (fun c2 => ?_) (fun c2 => ?_)
  · skip
    refine g_iconst k dX5_seek_19 ?_
    exact K20 0 S0 h ha hm hw hb fr0 (by rw [if_neg (by omega)])
  · skip
    refine g_aload_n k rfl dX5_seek_5 ?_
    refine g_aload_n k rfl dX5_seek_6 ?_
    refine g_iload_n k rfl dX5_seek_7 ?_
    refine g_iload_n k rfl dX5_seek_8 ?_
    refine g_iload k rfl dX5_seek_9 ?_
    refine g_iload k rfl dX5_seek_11 ?_
    refine g_cVi k 5 (As := [.ref b, vi (w : Int), vi (k1 : Int), vi (y : Int), vi (x : Int)]) v_X5_fewest rfl rfl ha ml_X5_18 (c_X5_fewest ⟨ha, hw, hm⟩ hF0 hS hd hw2 hk hy hx) (by omega) (by omega) rfl (Nat.le_of_ble_eq_true rfl) rfl dX5_seek_13 (fun r13 h13 p13 => ?_)
    obtain ⟨p13e, ⟨S3, ⟨na, nw, nm⟩, S3q⟩, nfr⟩ := p13
    subst p13e
    have ha__8 : h13 a = some (ob 5 [vi n0, vi c0, vi x0, vi y0, .ref (a + 1), .ref (a + 2)]) := na
    have hm__8 : h13 (a + 2) = some (ai G 64 S3) := nm
    have hw__8 : h13 (a + 1) = some (ai G 8 r0) := nw
    have hb__8 : h13 b = some (ob 0 [vi (it : Int), vi (φ.length : Int), .ref (b + 1), .ref (b + 2), .ref (b + 3)]) := (nfr _ (by omega)).trans hb
    have fr__8 : ∀ q : Nat, (q < a ∨ a + 2 < q) → h13 q = h q := fun q hq => (nfr q (by omega)).trans (fr0 q hq)
    refine g_goto k (tgt := 20) dX5_seek_16 (by decide) ?_
    exact K20 (fews φ w it k1 y x) S3 h13 ha__8 hm__8 hw__8 hb__8 fr__8 (by rw [if_pos (by omega)])

