/-! Past: the acts that can be undone, at 34 cells: object, row, eight facts -/
def psh (ps : List (Nat × Fs)) (x : Nat × Fs) : List (Nat × Fs) := (if ps.length = 8 then ps.tail else ps) ++ [x]
def PC (G : Gx) (h : Hp) (a n : Nat) (f : Nat → Option Nat) (σ : Nat → Nat) : Prop := h a = some (ob 2 [vi (n : Int), .ref (a + 1)]) ∧ h (a + 1) = some (aq G 8 f) ∧ (∀ i, i < 8 → f i = some (a + 2 + 4 * σ i) ∧ σ i < 8) ∧ (∀ i j, i < 8 → j < 8 → σ i = σ j → i = j) ∧ ∀ s, s < 8 → ∃ (it m : Nat) (K F S : Nat → Int), FC G h (a + 2 + 4 * s) it m K F S
def PA (G : Gx) (h : Hp) (a : Nat) (ps : List (Nat × Fs)) : Prop := ∃ (f : Nat → Option Nat) (σ : Nat → Nat), PC G h a ps.length f σ ∧ ps.length ≤ 8 ∧ ∀ i, i < ps.length → FA G h (a + 2 + 4 * σ i) (ps.getD i (0, [])).1 (ps.getD i (0, [])).2 ∧ (ps.getD i (0, [])).2.length ≤ 28
theorem FC.keep {G : Gx} {h h' : Hp} {b it n : Nat} {K F S : Nat → Int} (hF : FC G h b it n K F S) (fr : ∀ q : Nat, b ≤ q → q ≤ b + 3 → h' q = h q) : FC G h' b it n K F S := ⟨(fr _ (by omega) (by omega)).trans hF.1, (fr _ (by omega) (by omega)).trans hF.2.1, (fr _ (by omega) (by omega)).trans hF.2.2.1, (fr _ (by omega) (by omega)).trans hF.2.2.2⟩
theorem FA.fc {G : Gx} {h : Hp} {b it : Nat} {φ : Fs} (hF : FA G h b it φ) : ∃ (K F S : Nat → Int), FC G h b it φ.length K F S := by
  obtain ⟨K, F, S, h1, h2, h3, h4, -⟩ := hF
  exact ⟨K, F, S, h1, h2, h3, h4⟩
theorem getD_tail {ps : List (Nat × Fs)} {i : Nat} : ps.tail.getD i (0, []) = ps.getD (i + 1) (0, []) := by cases ps <;> simp
theorem getD_app {ps : List (Nat × Fs)} {x : Nat × Fs} {i : Nat} (h : i < ps.length) : (ps ++ [x]).getD i (0, []) = ps.getD i (0, []) := by rw [List.getD_eq_getElem?_getD, List.getD_eq_getElem?_getD, List.getElem?_append_left h]
theorem getD_last {ps : List (Nat × Fs)} {x : Nat × Fs} : (ps ++ [x]).getD ps.length (0, []) = x := by simp [List.getD_eq_getElem?_getD]

set_option maxHeartbeats 600000 in
set_option maxRecDepth 100000 in
theorem c_X2_forgetOldest {G : Gx} {h : Hp} {nx a n : Nat} {f : Nat → Option Nat} {g : Nat → Nat} {V : Nat → List Value} (ha : h a = some (ob 2 [vi (n : Int), .ref (a + 1)])) (hk : h (a + 1) = some (aq G 8 f)) (hf : ∀ i, i < 8 → f i = some (g i)) (hg : ∀ i, i < 8 → h (g i) = some (ob 0 (V i)) ∧ a + 1 < g i) (hn : 1 ≤ n ∧ n ≤ 8) : Con G yX2_forgetOldest cX2_forgetOldest 3 none 1 0 0 [.ref a] h nx (PV fun h' => (∃ f2 : Nat → Option Nat, h' a = some (ob 2 [vi ((n - 1 : Nat) : Int), .ref (a + 1)]) ∧ h' (a + 1) = some (aq G 8 f2) ∧ ∀ i, i < 8 → f2 i = f ((i + 1) % 8)) ∧ ∀ q : Nat, (q < a ∨ a + 1 < q) → h' q = h q) := by
  refine Con.of v_X2_forgetOldest.2.2.2.2.2.1 (Nat.le_of_ble_eq_true rfl) (lv := [(0, .ref a)]) rfl (fun X k => ?_)
  generalize hQQ : QM G X nx 0 0 _ = QQ
  have fr0 : ∀ q : Nat, (q < a ∨ a + 1 < q) → h q = h q := fun _ _ => rfl
  refine g_aload_n k rfl dX2_forgetOldest_0 ?_
  refine g_get k 2 1 (C := RX2) (T := TX2) (N := 2) fl_X2_11 rfl wi_X2 (by decide) rfl ha rfl dX2_forgetOldest_1 ?_
  refine g_iconst k dX2_forgetOldest_4 ?_
  refine g_aldq k 0 hk (by omega) (by omega) (by decide) (b := g 0) (hf 0 (by omega)) dX2_forgetOldest_5 ?_
  refine g_astore_n k (lv2 := [(0, .ref a), (1, .ref (g 0))]) (by decide) rfl rfl dX2_forgetOldest_6 ?_
  refine g_iconst k dX2_forgetOldest_7 ?_
  refine g_istore_n k (lv2 := [(0, .ref a), (1, .ref (g 0)), (2, vi 0)]) (by decide) rfl rfl dX2_forgetOldest_8 ?_
  have K9 : ∀ (nz : Nat) (v : Nat) (f2 : Nat → Option Nat) (h9 : Hp) (ha_ : h9 a = some (ob 2 [vi (n : Int), .ref (a + 1)])) (hk_ : h9 (a + 1) = some (aq G 8 f2)) (fr_ : ∀ q : Nat, (q < a ∨ a + 1 < q) → h9 q = h q) (hv : v ≤ 7) (hd : ∀ j, j < 8 → f2 j = if j < v then f (j + 1) else f j) (hmz : 7 - v < nz), Go G X 3 QQ 0 0 nx 9 [(0, .ref a), (1, .ref (g 0)), (2, vi (v : Int))] [] h9 := by
    intro nz
    induction nz with
    | zero => intro v f2 h9 ha_ hk_ fr_ hv hd hmz; exact absurd hmz (Nat.not_lt_zero _)
    | succ nz ih9 =>
      intro v f2 h9 ha_ hk_ fr_ hv hd hmz
      refine g_iload_n k rfl dX2_forgetOldest_9 ?_
      refine g_iconst k dX2_forgetOldest_10 ?_
      refine g_iadd k dX2_forgetOldest_11 ?_
      refine g_bipush k rfl dX2_forgetOldest_12 ?_
      refine g_icmp_ge k (tgt := 37) (by omega) (by omega) dX2_forgetOldest_14 (by decide) (fun c14 => ?_) (fun c14 => ?_)
      · skip
        refine g_aload_n k rfl dX2_forgetOldest_37 ?_
        refine g_get k 2 1 (C := RX2) (T := TX2) (N := 2) fl_X2_11 rfl wi_X2 (by decide) rfl ha_ rfl dX2_forgetOldest_38 ?_
        refine g_bipush k rfl dX2_forgetOldest_41 ?_
        refine g_aload_n k rfl dX2_forgetOldest_43 ?_
        have hv44 : h9 (g 0) = some (ob 0 (V 0)) := (fr_ _ (Or.inr (hg 0 (by omega)).2)).trans (hg 0 (by omega)).1
        refine g_astq k 7 hk_ hv44 (by omega) (by omega) (by decide) dX2_forgetOldest_44 (fun h44 eh44 => ?_)
        have ha__1 : h44 a = some (ob 2 [vi (n : Int), .ref (a + 1)]) := (congrFun eh44 _).trans ((hup_n (by first | omega | (have := (hg 0 (by omega)).2; omega) | (have := (hg (v + 1) (by omega)).2; omega))).trans ha_)
        have hk__1 : h44 (a + 1) = some (aq G 8 (fu f2 7 (some (g 0)))) := (congrFun eh44 _).trans hup_s
        have kv_ : h44 (g 0) = some (ob 0 (V 0)) := (congrFun eh44 _).trans ((hup_n (by first | omega | (have := (hg 0 (by omega)).2; omega) | (have := (hg (v + 1) (by omega)).2; omega))).trans hv44)
        have fr__1 : ∀ q : Nat, (q < a ∨ a + 1 < q) → h44 q = h q := fun q hq => (congrFun eh44 q).trans ((hup_n (by omega)).trans (fr_ q hq))
        refine g_aload_n k rfl dX2_forgetOldest_45 ?_
        refine g_dup k rfl dX2_forgetOldest_46 ?_
        refine g_get k 2 0 (C := RX2) (T := TX2) (N := 2) fl_X2_18 rfl wi_X2 (by decide) rfl ha__1 rfl dX2_forgetOldest_47 ?_
        refine g_iconst k dX2_forgetOldest_50 ?_
        refine g_isub k dX2_forgetOldest_51 ?_
        refine g_put k 2 0 (C := RX2) (T := TX2) (N := 2) fl_X2_18 rfl wi_X2 tyX2 tyX2_ok nmX2 (by decide) rfl rfl rfl rfl ha__1 (Nat.le_of_ble_eq_true rfl) (fs2 := [vi ((n : Int) - 1), .ref (a + 1)]) rfl rfl dX2_forgetOldest_52 (fun h52 eh52 => ?_)
        have ha__2 : h52 a = some (ob 2 [vi ((n : Int) - 1), .ref (a + 1)]) := (congrFun eh52 _).trans hup_s
        have hk__2 : h52 (a + 1) = some (aq G 8 (fu f2 7 (some (g 0)))) := (congrFun eh52 _).trans ((hup_n (by first | omega | (have := (hg 0 (by omega)).2; omega) | (have := (hg (v + 1) (by omega)).2; omega))).trans hk__1)
        have fr__2 : ∀ q : Nat, (q < a ∨ a + 1 < q) → h52 q = h q := fun q hq => (congrFun eh52 q).trans ((hup_n (by omega)).trans (fr__1 q hq))
        rw [← hQQ]
        refine g_retv k rfl dX2_forgetOldest_55 ?_
        refine ⟨⟨_, by rw [show ((n - 1 : Nat) : Int) = (n : Int) - 1 by omega]; exact ha__2, hk__2, fun i hi => ?_⟩, fr__2⟩
        by_cases e : i = 7
        · subst e; rw [fu_s]; exact (hf 0 (by omega)).symm
        · rw [fu_n e, hd i hi, if_pos (by omega), show (i + 1) % 8 = i + 1 by omega]
      · skip
        refine g_aload_n k rfl dX2_forgetOldest_17 ?_
        refine g_get k 2 1 (C := RX2) (T := TX2) (N := 2) fl_X2_11 rfl wi_X2 (by decide) rfl ha_ rfl dX2_forgetOldest_18 ?_
        refine g_iload_n k rfl dX2_forgetOldest_21 ?_
        refine g_aload_n k rfl dX2_forgetOldest_22 ?_
        refine g_get k 2 1 (C := RX2) (T := TX2) (N := 2) fl_X2_11 rfl wi_X2 (by decide) rfl ha_ rfl dX2_forgetOldest_23 ?_
        refine g_iload_n k rfl dX2_forgetOldest_26 ?_
        refine g_iconst k dX2_forgetOldest_27 ?_
        refine g_iadd k dX2_forgetOldest_28 ?_
        refine g_aldq k (v + 1) hk_ (by omega) (by omega) (by decide) (b := g (v + 1)) (by rw [hd (v + 1) (by omega), if_neg (by omega)]; exact hf (v + 1) (by omega)) dX2_forgetOldest_29 ?_
        have hv30 : h9 (g (v + 1)) = some (ob 0 (V (v + 1))) := (fr_ _ (Or.inr (hg (v + 1) (by omega)).2)).trans (hg (v + 1) (by omega)).1
        refine g_astq k v hk_ hv30 (by omega) (by omega) (by decide) dX2_forgetOldest_30 (fun h30 eh30 => ?_)
        have ha__3 : h30 a = some (ob 2 [vi (n : Int), .ref (a + 1)]) := (congrFun eh30 _).trans ((hup_n (by first | omega | (have := (hg 0 (by omega)).2; omega) | (have := (hg (v + 1) (by omega)).2; omega))).trans ha_)
        have hk__3 : h30 (a + 1) = some (aq G 8 (fu f2 v (some (g (v + 1))))) := (congrFun eh30 _).trans hup_s
        have kv__1 : h30 (g (v + 1)) = some (ob 0 (V (v + 1))) := (congrFun eh30 _).trans ((hup_n (by first | omega | (have := (hg 0 (by omega)).2; omega) | (have := (hg (v + 1) (by omega)).2; omega))).trans hv30)
        have fr__3 : ∀ q : Nat, (q < a ∨ a + 1 < q) → h30 q = h q := fun q hq => (congrFun eh30 q).trans ((hup_n (by omega)).trans (fr_ q hq))
        refine g_iinc k (lv2 := [(0, .ref a), (1, .ref (g 0)), (2, vi ((v : Int) + 1))]) rfl (by decide) rfl rfl dX2_forgetOldest_31 ?_
        refine g_goto k (tgt := 9) dX2_forgetOldest_34 (by decide) ?_
        exact ih9 (v + 1) (fu f2 v (some (g (v + 1)))) h30 ha__3 hk__3 fr__3 (by omega) (fun j hj => by by_cases e : j = v; (subst e; rw [fu_s, if_pos (by omega)]; exact (hf (j + 1) (by omega)).symm); (rw [fu_n e, hd j hj]; by_cases e2 : j < v; (rw [if_pos e2, if_pos (by omega)]); rw [if_neg e2, if_neg (by omega)])) (by omega)
  exact K9 _ 0 f h ha hk fr0 (Nat.zero_le _) (fun j hj => by rw [if_neg (by omega)]) (Nat.lt_succ_self _)

theorem PA.push {G : Gx} {h h' : Hp} {a : Nat} {ps : List (Nat × Fs)} {f : Nat → Option Nat} {σ : Nat → Nat} (hn : ps.length < 8) (hP : PC G h a ps.length f σ) (hps : ∀ i, i < ps.length → FA G h (a + 2 + 4 * σ i) (ps.getD i (0, [])).1 (ps.getD i (0, [])).2 ∧ (ps.getD i (0, [])).2.length ≤ 28) {it : Nat} {φ : Fs} (hl : φ.length ≤ 28)
    (h1 : h' a = some (ob 2 [vi ((ps.length + 1 : Nat) : Int), .ref (a + 1)])) (h2 : h' (a + 1) = some (aq G 8 f)) (hF : FA G h' (a + 2 + 4 * σ ps.length) it φ) (fr : ∀ q, a + 1 < q → (q < a + 2 + 4 * σ ps.length ∨ a + 2 + 4 * σ ps.length + 3 < q) → h' q = h q) : PA G h' a (ps ++ [(it, φ)]) := by
  obtain ⟨-, -, p3, p4, p5⟩ := hP
  have el : (ps ++ [(it, φ)]).length = ps.length + 1 := by simp
  refine ⟨f, σ, ⟨by rw [el]; exact h1, h2, p3, p4, fun s hs => ?_⟩, by omega, fun i hi => ?_⟩
  · by_cases e : s = σ ps.length
    · subst e
      obtain ⟨K, F, S, hq⟩ := hF.fc
      exact ⟨_, _, K, F, S, hq⟩
    · obtain ⟨i2, m2, K, F, S, hq⟩ := p5 s hs
      exact ⟨i2, m2, K, F, S, hq.keep (fun q g1 g2 => fr q (by omega) (by omega))⟩
  · rw [el] at hi
    by_cases e : i = ps.length
    · subst e
      rw [getD_last]
      exact ⟨hF, hl⟩
    · have hi2 : i < ps.length := by omega
      rw [getD_app hi2]
      have hne : σ i ≠ σ ps.length := fun q => e (p4 i ps.length (by omega) hn q)
      exact ⟨(hps i hi2).1.keep (fun q g1 g2 => fr q (by omega) (by omega)), (hps i hi2).2⟩
theorem PA.rot {G : Gx} {h h' : Hp} {a : Nat} {ps : List (Nat × Fs)} {f f2 : Nat → Option Nat} {σ : Nat → Nat} (hn : ps.length = 8) (hP : PC G h a 8 f σ) (hps : ∀ i, i < ps.length → FA G h (a + 2 + 4 * σ i) (ps.getD i (0, [])).1 (ps.getD i (0, [])).2 ∧ (ps.getD i (0, [])).2.length ≤ 28)
    (h1 : h' a = some (ob 2 [vi ((7 : Nat) : Int), .ref (a + 1)])) (h2 : h' (a + 1) = some (aq G 8 f2)) (hf2 : ∀ i, i < 8 → f2 i = f ((i + 1) % 8)) (fr : ∀ q, (q < a ∨ a + 1 < q) → h' q = h q) : PC G h' a ps.tail.length f2 (fun i => σ ((i + 1) % 8)) ∧ ∀ i, i < ps.tail.length → FA G h' (a + 2 + 4 * σ ((i + 1) % 8)) (ps.tail.getD i (0, [])).1 (ps.tail.getD i (0, [])).2 ∧ (ps.tail.getD i (0, [])).2.length ≤ 28 := by
  obtain ⟨-, -, p3, p4, p5⟩ := hP
  have el : ps.tail.length = 7 := by simp [hn]
  refine ⟨⟨by rw [el]; exact h1, h2, fun i hi => ?_, fun i j hi hj q => ?_, fun s hs => ?_⟩, fun i hi => ?_⟩
  · rw [hf2 i hi]; exact p3 _ (by omega)
  · have := p4 _ _ (by omega) (by omega) q
    omega
  · obtain ⟨i2, m2, K, F, S, hq⟩ := p5 s hs
    exact ⟨i2, m2, K, F, S, hq.keep (fun q g1 g2 => fr q (by omega))⟩
  · rw [el] at hi
    rw [getD_tail, show (i + 1) % 8 = i + 1 by omega]
    exact ⟨(hps (i + 1) (by omega)).1.keep (fun q g1 g2 => fr q (by omega)), (hps (i + 1) (by omega)).2⟩
theorem PC.obs {G : Gx} {h : Hp} {a n : Nat} {f : Nat → Option Nat} {σ : Nat → Nat} (hP : PC G h a n f σ) : ∃ V : Nat → List Value, ∀ i, i < 8 → h (a + 2 + 4 * σ i) = some (ob 0 (V i)) ∧ a + 1 < a + 2 + 4 * σ i := by
  refine ⟨fun i => match h (a + 2 + 4 * σ i) with | some (.inr (_, vs)) => vs | _ => [], fun i hi => ⟨?_, by omega⟩⟩
  obtain ⟨-, -, p3, -, p5⟩ := hP
  obtain ⟨i2, m2, K, F, S, hq⟩ := p5 (σ i) (p3 i hi).2
  dsimp only
  rw [hq.1]
  rfl
set_option maxHeartbeats 600000 in
set_option maxRecDepth 100000 in
theorem c_X2_push {G : Gx} {h : Hp} {nx a b it : Nat} {ps : List (Nat × Fs)} {φ : Fs} (hPA : PA G h a ps) (hF : FA G h b it φ) (hl : φ.length ≤ 28) (hd : b + 3 < a ∨ a + 33 < b) : Con G yX2_push cX2_push 2 none 2 0 0 [.ref a, .ref b] h nx (PV fun h' => PA G h' a (psh ps (it, φ)) ∧ ∀ q : Nat, (q < a ∨ a + 33 < q) → h' q = h q) := by
  obtain ⟨f, σ, hP0, hp8, hps0⟩ := hPA
  have ha := hP0.1
  have hk := hP0.2.1
  obtain ⟨V, hV⟩ := hP0.obs
  refine Con.of v_X2_push.2.2.2.2.2.1 (Nat.le_of_ble_eq_true rfl) (lv := [(0, .ref a), (1, .ref b)]) rfl (fun X k => ?_)
  generalize hQQ : QM G X nx 0 0 _ = QQ
  have fr0 : ∀ q : Nat, (q < a ∨ a + 33 < q) → h q = h q := fun _ _ => rfl
  have K13 : ∀ (ps2 : List (Nat × Fs)) (f2 : Nat → Option Nat) (σ2 : Nat → Nat) (h13 : Hp) (ha_ : h13 a = some (ob 2 [vi (ps2.length : Int), .ref (a + 1)])) (hk_ : h13 (a + 1) = some (aq G 8 f2)) (fr_ : ∀ q : Nat, (q < a ∨ a + 33 < q) → h13 q = h q) (hP : PC G h13 a ps2.length f2 σ2) (hps : ∀ i, i < ps2.length → FA G h13 (a + 2 + 4 * σ2 i) (ps2.getD i (0, [])).1 (ps2.getD i (0, [])).2 ∧ (ps2.getD i (0, [])).2.length ≤ 28) (hn2 : ps2.length < 8) (he : psh ps (it, φ) = ps2 ++ [(it, φ)]) (hF2 : FA G h13 b it φ), Go G X 2 QQ 0 0 nx 13 [(0, .ref a), (1, .ref b)] [] h13 := by
    intro ps2 f2 σ2 h13 ha_ hk_ fr_ hP hps hn2 he hF2
    refine g_aload_n k rfl dX2_push_13 ?_
    refine g_get k 2 1 (C := RX2) (T := TX2) (N := 2) fl_X2_11 rfl wi_X2 (by decide) rfl ha_ rfl dX2_push_14 ?_
    refine g_aload_n k rfl dX2_push_17 ?_
    refine g_get k 2 0 (C := RX2) (T := TX2) (N := 2) fl_X2_18 rfl wi_X2 (by decide) rfl ha_ rfl dX2_push_18 ?_
    obtain ⟨itr, mr, Kr, Fr, Sr, hFr⟩ := hP.2.2.2.2 (σ2 ps2.length) (hP.2.2.1 _ hn2).2
    refine g_aldq k (ps2.length) hk_ (by omega) (by omega) (by decide) (b := a + 2 + 4 * σ2 ps2.length) (hP.2.2.1 _ hn2).1 dX2_push_21 ?_
    refine g_aload_n k rfl dX2_push_22 ?_
    refine g_cVv k 0 (As := [.ref b]) v_X0_copyFrom rfl rfl hFr.1 ml_X2_25 (c_X0_copyFrom hFr hF2 hl (by have := (hP.2.2.1 _ hn2).2; omega)) (by omega) (by omega) rfl (Nat.le_of_ble_eq_true rfl) rfl dX2_push_23 (fun h23 p23 => ?_)
    obtain ⟨nF, nfr⟩ := p23
    have ha__1 : h23 a = some (ob 2 [vi (ps2.length : Int), .ref (a + 1)]) := (nfr _ (by have := (hP.2.2.1 _ hn2).2; omega)).trans ha_
    have hk__1 : h23 (a + 1) = some (aq G 8 f2) := (nfr _ (by have := (hP.2.2.1 _ hn2).2; omega)).trans hk_
    have fr__1 : ∀ q : Nat, (q < a ∨ a + 33 < q) → h23 q = h q := fun q hq => (nfr q (by have := (hP.2.2.1 _ hn2).2; omega)).trans (fr_ q hq)
    refine g_aload_n k rfl dX2_push_26 ?_
    refine g_dup k rfl dX2_push_27 ?_
    refine g_get k 2 0 (C := RX2) (T := TX2) (N := 2) fl_X2_18 rfl wi_X2 (by decide) rfl ha__1 rfl dX2_push_28 ?_
    refine g_iconst k dX2_push_31 ?_
    refine g_iadd k dX2_push_32 ?_
    refine g_put k 2 0 (C := RX2) (T := TX2) (N := 2) fl_X2_18 rfl wi_X2 tyX2 tyX2_ok nmX2 (by decide) rfl rfl rfl rfl ha__1 (Nat.le_of_ble_eq_true rfl) (fs2 := [vi ((ps2.length : Int) + 1), .ref (a + 1)]) rfl rfl dX2_push_33 (fun h33 eh33 => ?_)
    have ha__2 : h33 a = some (ob 2 [vi ((ps2.length : Int) + 1), .ref (a + 1)]) := (congrFun eh33 _).trans hup_s
    have hk__2 : h33 (a + 1) = some (aq G 8 f2) := (congrFun eh33 _).trans ((hup_n (by omega)).trans hk__1)
    have fr__2 : ∀ q : Nat, (q < a ∨ a + 33 < q) → h33 q = h q := fun q hq => (congrFun eh33 q).trans ((hup_n (by omega)).trans (fr__1 q hq))
    rw [← hQQ]
    refine g_retv k rfl dX2_push_36 ?_
    rw [he]
    refine ⟨PA.push hn2 hP hps hl ha__2 hk__2 (nF.keep (fun q g1 g2 => ?_)) (fun q g1 g2 => ?_), fr__2⟩
    · exact (congrFun eh33 q).trans (hup_n (by omega))
    · exact (congrFun eh33 q).trans ((hup_n (by omega)).trans (nfr q (by omega)))
  refine g_aload_n k rfl dX2_push_0 ?_
  refine g_get k 2 0 (C := RX2) (T := TX2) (N := 2) fl_X2_18 rfl wi_X2 (by decide) rfl ha rfl dX2_push_1 ?_
  refine g_bipush k rfl dX2_push_4 ?_
  refine g_icmp_ne k (tgt := 13) (by omega) (by omega) dX2_push_6 (by decide) (fun c6 => ?_) (fun c6 => ?_)
  · skip
    exact K13 ps f (σ) h ha hk fr0 hP0 hps0 (by omega) (by rw [psh, if_neg (by omega)]) hF
  · skip
    refine g_aload_n k rfl dX2_push_9 ?_
    refine g_cVv k 2 (As := []) v_X2_forgetOldest rfl rfl ha ml_X2_22 (c_X2_forgetOldest ha hk (fun i hi => (hP0.2.2.1 i hi).1) hV (by omega)) (by omega) (by omega) rfl (Nat.le_of_ble_eq_true rfl) rfl dX2_push_10 (fun h10 p10 => ?_)
    obtain ⟨⟨f3, na, nk, hf3⟩, nfr⟩ := p10
    have ha__3 : h10 a = some (ob 2 [vi ((ps.length - 1 : Nat) : Int), .ref (a + 1)]) := na
    have hk__3 : h10 (a + 1) = some (aq G 8 f3) := nk
    have fr__3 : ∀ q : Nat, (q < a ∨ a + 33 < q) → h10 q = h q := fun q hq => (nfr q (by omega)).trans (fr0 q hq)
    have e7 : ps.length - 1 = 7 := by omega
    rw [e7] at na
    have e8 : ps.length = 8 := by omega
    have hrot := PA.rot (h' := h10) e8 (by rw [← e8]; exact hP0) hps0 na nk hf3 nfr
    have hz : ((ps.length - 1 : Nat) : Int) = (ps.tail.length : Nat) := by simp
    have ha__3 : h10 a = some (ob 2 [vi (ps.tail.length : Int), .ref (a + 1)]) := hrot.1.1
    exact K13 (ps.tail) f3 (fun i => σ ((i + 1) % 8)) h10 ha__3 hk__3 fr__3 hrot.1 hrot.2 (by simp; omega) (by rw [psh, if_pos (by omega)]) (hF.keep (fun q g1 g2 => nfr q (by omega)))

set_option maxHeartbeats 600000 in
set_option maxRecDepth 100000 in
theorem c_X2_popInto {G : Gx} {h : Hp} {nx a b it n : Nat} {K F S : Nat → Int} {ps : List (Nat × Fs)} {x : Nat × Fs} (hPA : PA G h a (ps ++ [x])) (hF : FC G h b it n K F S) (hd : b + 3 < a ∨ a + 33 < b) : Con G yX2_popInto cX2_popInto 2 none 2 0 0 [.ref a, .ref b] h nx (PV fun h' => PA G h' a ps ∧ FA G h' b x.1 x.2 ∧ ∀ q : Nat, (q < a ∨ a + 33 < q) → (q < b ∨ b + 3 < q) → h' q = h q) := by
  obtain ⟨f, σ, hP0, hp8, hps0⟩ := hPA
  have el : (ps ++ [x]).length = ps.length + 1 := by simp
  rw [el] at hP0 hp8 hps0
  have ha := hP0.1
  have hk := hP0.2.1
  have kb := hF.1
  have hx := hps0 ps.length (by omega)
  rw [getD_last] at hx
  have hσ := (hP0.2.2.1 ps.length (by omega)).2
  refine Con.of v_X2_popInto.2.2.2.2.2.1 (Nat.le_of_ble_eq_true rfl) (lv := [(0, .ref a), (1, .ref b)]) rfl (fun X k => ?_)
  generalize hQQ : QM G X nx 0 0 _ = QQ
  refine g_aload_n k rfl dX2_popInto_0 ?_
  refine g_get k 2 0 (C := RX2) (T := TX2) (N := 2) fl_X2_18 rfl wi_X2 (by decide) rfl ha rfl dX2_popInto_1 ?_
  refine g_if_le k (tgt := 30) (by omega) dX2_popInto_4 (by decide) (fun c4 => ?_) (fun c4 => ?_)
  · skip
    omega
  · skip
    refine g_aload_n k rfl dX2_popInto_7 ?_
    refine g_dup k rfl dX2_popInto_8 ?_
    refine g_get k 2 0 (C := RX2) (T := TX2) (N := 2) fl_X2_18 rfl wi_X2 (by decide) rfl ha rfl dX2_popInto_9 ?_
    refine g_iconst k dX2_popInto_12 ?_
    refine g_isub k dX2_popInto_13 ?_
    refine g_put k 2 0 (C := RX2) (T := TX2) (N := 2) fl_X2_18 rfl wi_X2 tyX2 tyX2_ok nmX2 (by decide) rfl rfl rfl rfl ha (Nat.le_of_ble_eq_true rfl) (fs2 := [vi (((ps.length : Int) + 1) - 1), .ref (a + 1)]) rfl rfl dX2_popInto_14 (fun h14 eh14 => ?_)
    have ha_ : h14 a = some (ob 2 [vi (((ps.length : Int) + 1) - 1), .ref (a + 1)]) := (congrFun eh14 _).trans hup_s
    have hk_ : h14 (a + 1) = some (aq G 8 f) := (congrFun eh14 _).trans ((hup_n (by omega)).trans hk)
    have kb_ : h14 b = some (ob 0 [vi (it : Int), vi (n : Int), .ref (b + 1), .ref (b + 2), .ref (b + 3)]) := (congrFun eh14 _).trans ((hup_n (by omega)).trans kb)
    refine g_aload_n k rfl dX2_popInto_17 ?_
    refine g_aload_n k rfl dX2_popInto_18 ?_
    refine g_get k 2 1 (C := RX2) (T := TX2) (N := 2) fl_X2_11 rfl wi_X2 (by decide) rfl ha_ rfl dX2_popInto_19 ?_
    refine g_aload_n k rfl dX2_popInto_22 ?_
    refine g_get k 2 0 (C := RX2) (T := TX2) (N := 2) fl_X2_18 rfl wi_X2 (by decide) rfl ha_ rfl dX2_popInto_23 ?_
    refine g_aldq k (ps.length) hk_ (by omega) (by omega) (by decide) (b := a + 2 + 4 * σ ps.length) (hP0.2.2.1 ps.length (by omega)).1 dX2_popInto_26 ?_
    refine g_cVv k 0 (As := [.ref (a + 2 + 4 * σ ps.length)]) v_X0_copyFrom rfl rfl kb_ ml_X2_25 (c_X0_copyFrom (hF.keep (fun q g1 g2 => (congrFun eh14 q).trans (hup_n (by omega)))) (hx.1.keep (fun q g1 g2 => (congrFun eh14 q).trans (hup_n (by omega)))) hx.2 (by omega)) (by omega) (by omega) rfl (Nat.le_of_ble_eq_true rfl) rfl dX2_popInto_27 (fun h27 p27 => ?_)
    obtain ⟨nF, nfr⟩ := p27
    have ha__1 : h27 a = some (ob 2 [vi (((ps.length : Int) + 1) - 1), .ref (a + 1)]) := (nfr _ (by omega)).trans ha_
    have hk__1 : h27 (a + 1) = some (aq G 8 f) := (nfr _ (by omega)).trans hk_
    rw [← hQQ]
    refine g_retv k rfl dX2_popInto_30 ?_
    refine ⟨⟨f, σ, ⟨?_, hk__1, hP0.2.2.1, hP0.2.2.2.1, fun s hs => ?_⟩, by omega, fun i hi => ?_⟩, nF, fun q g1 g2 => (nfr q g2).trans ((congrFun eh14 q).trans (hup_n (by omega)))⟩
    · rw [show (ps.length : Int) = (ps.length : Int) + 1 - 1 by omega]; exact ha__1
    · obtain ⟨i2, m2, K2, F2, S2, hq⟩ := hP0.2.2.2.2 s hs
      exact ⟨i2, m2, K2, F2, S2, hq.keep (fun q g1 g2 => (nfr q (by omega)).trans ((congrFun eh14 q).trans (hup_n (by omega))))⟩
    · have h9 := hps0 i (by omega)
      have hs9 := (hP0.2.2.1 i (by omega)).2
      rw [getD_app hi] at h9
      exact ⟨h9.1.keep (fun q g1 g2 => (nfr q (by omega)).trans ((congrFun eh14 q).trans (hup_n (by omega)))), h9.2⟩

