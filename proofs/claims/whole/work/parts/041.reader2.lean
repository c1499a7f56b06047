/-! rows of notes -/
theorem leF_all {T : Nat → Int} : ∀ k p j, p ≤ j → j < leF T k p → isLt (T j)
  | 0, p, j, h1, h2 => by unfold leF at h2; omega
  | k + 1, p, j, h1, h2 => by
    unfold leF at h2
    split at h2
    · rename_i q
      rcases (show j = p ∨ p + 1 ≤ j by omega) with rfl | z
      · exact q
      · exact leF_all k (p + 1) j z h2
    · omega
theorem wdF_b {T : Nat → Int} {p : Nat} : ∀ k, (∀ j, p ≤ j → j < p + k → isLt (T j)) → 0 ≤ wdF T p k ∧ wdF T p k < 32 ^ k
  | 0, _ => by unfold wdF; exact ⟨by omega, by decide⟩
  | k + 1, h => by
    have ih := wdF_b (T := T) (p := p) k (fun j g1 g2 => h j g1 (by omega))
    have hk := h (p + k) (by omega) (by omega)
    unfold isLt at hk
    unfold wdF
    rw [Int.pow_succ]
    omega
abbrev Tk : Type := Nat × Nat × Nat × Int
def TkO (n : Nat) (s : Tk) : Prop := s.1 ≤ 3 ∧ s.2.1 ≤ n ∧ s.2.2.1 ≤ n ∧ (s.1 = 1 → 0 ≤ s.2.2.2 ∧ s.2.2.2 < 34359738368)
theorem stF_ok {T : Nat → Int} {n lm nt : Nat} {wd : Int} (h1 : lm ≤ n) (h2 : nt ≤ n) : TkO n (stF T n lm nt wd) := by
  have hs := skF_b (T := T) (lm - nt) nt
  have hl := leF_b (T := T) (n - skF T (lm - nt) nt) (skF T (lm - nt) nt)
  unfold stF
  split
  · exact ⟨by dsimp only; omega, h1, by dsimp only; omega, fun q => by dsimp only at q; omega⟩
  · split
    · refine ⟨by dsimp only; split <;> omega, by dsimp only; omega, by dsimp only; omega, fun q => ?_⟩
      dsimp only at q ⊢
      have h7 : leF T (n - skF T (lm - nt) nt) (skF T (lm - nt) nt) - skF T (lm - nt) nt ≤ 7 := by
        by_cases c : leF T (n - skF T (lm - nt) nt) (skF T (lm - nt) nt) - skF T (lm - nt) nt ≤ 7
        · exact c
        · rw [if_neg c] at q; omega
      have hw := wdF_b (T := T) (p := skF T (lm - nt) nt) (leF T (n - skF T (lm - nt) nt) (skF T (lm - nt) nt) - skF T (lm - nt) nt) (fun j g1 g2 => leF_all (n - skF T (lm - nt) nt) _ j g1 (by omega))
      have hp : (32 : Int) ^ (leF T (n - skF T (lm - nt) nt) (skF T (lm - nt) nt) - skF T (lm - nt) nt) ≤ 34359738368 := by
        have : ∀ m : Nat, m < 8 → (32 : Int) ^ m ≤ 34359738368 := by decide
        exact this _ (by omega)
      omega
    · exact ⟨by dsimp only; split <;> omega, by dsimp only; omega, by dsimp only; omega, fun q => by dsimp only at q; split at q <;> omega⟩
noncomputable def nxT (T : Nat → Int) (n lm : Nat) (s : Tk) : Tk := stF T n lm s.2.2.1 s.2.2.2
/-- what a ring tells: how many, how many BEFORE, from, to, the row -/
abbrev RV : Type := Int × Int × Int × Int × (Nat → Int)
def GV (G : Gx) (h : Hp) (a : Nat) (V : RV) : Prop := ∃ rw S : Nat → Int, GA G h a V.1 V.2.1 V.2.2.1 V.2.2.2.1 rw S ∧ ∀ i : Nat, (i : Int) + 1 < V.1 → rw i = V.2.2.2.2 i
noncomputable def skV (φ : Fs) (w it k x y : Nat) (V : RV) : RV :=
  if 0 < (skN φ w it k x y).1 then (((skN φ w it k x y).1 : Int) + 1, (trS φ w (fwL φ w (skN φ w it k x y).2.1 (skN φ w it k x y).1) k (skN φ w it k x y).2.2 (skN φ w it k x y).1 (skN φ w it k x y).1).2.2, ((skN φ w it k x y).2.1 : Int), ((skN φ w it k x y).2.2 : Int), fun i => trK φ w (fwL φ w (skN φ w it k x y).2.1 (skN φ w it k x y).1) k (skN φ w it k x y).2.2 (skN φ w it k x y).1 i) else V
def rfd (φ : Fs) (w it k x y : Nat) : Prop := 0 < (skN φ w it k x y).1
theorem Con.mono {G : Gx} {y : MethodName} {cc : ByteArray} {nL : Nat} {ret : Option FieldType} {lev mc ms : Nat} {av : List Value} {h : Hp} {nx : Nat} {P Q : Option Value → Hp → Prop} (hc : Con G y cc nL ret lev mc ms av h nx P) (hi : ∀ v h', P v h' → Q v h') : Con G y cc nL ret lev mc ms av h nx Q := by
  intro p e ha hk hl s m args below hf h1 h2 h3
  obtain ⟨k, o, b1, b2, b3, ⟨v, h', c1, c2, c3⟩, c4⟩ := hc p e ha hk hl s m args below hf h1 h2 h3
  exact ⟨k, o, b1, b2, b3, ⟨v, h', c1, hi v h' c2, c3⟩, c4⟩
theorem c_seekV {G : Gx} {h : Hp} {nx a : Nat} {V : RV} (hV : GV G h a V) {b it : Nat} {φ : Fs} (hF : FA G h b it φ) (hS : Sm it φ) (hd : a + 2 < b ∨ b + 3 < a) {w : Nat} (hw2 : w < 268435456) {k1 x y : Nat} (hk : k1 ≤ 1) (hx : x < it) (hy : y < it) : Con G yX5_seek cX5_seek 8 (some .boolean) 4 0 0 [.ref a, .ref b, vi (w : Int), vi (k1 : Int), vi (x : Int), vi (y : Int)] h nx (PI fun z h' => bz (rfd φ w it k1 x y) z ∧ GV G h' a (skV φ w it k1 x y V) ∧ ∀ q : Nat, (q < a ∨ a + 2 < q) → h' q = h q) := by
  obtain ⟨rw0, S0, hA, hr0⟩ := hV
  refine (c_X5_seek hA hF hS hd hw2 hk hx hy).mono (fun v h' hp => ?_)
  obtain ⟨z, rfl, p1, p2, p3, p4⟩ := hp
  refine ⟨z, rfl, p1, ?_, p4⟩
  by_cases c : 0 < (skN φ w it k1 x y).1
  · obtain ⟨r1, g1, g2⟩ := p2 c
    rw [skV, if_pos c]
    exact ⟨r1, _, g1, fun i hi => g2 i (by dsimp only at hi; omega)⟩
  · obtain ⟨S1, g1⟩ := p3 c
    rw [skV, if_neg c]
    exact ⟨rw0, S1, g1, hr0⟩
theorem RDC.keep {G : Gx} {h h' : Hp} {a t r : Nat} {ft fp lm pl nt tk wd : Int} {NM : Nat → Int} (hA : RDC G h a ft fp lm pl nt tk wd NM t r) (fr : ∀ q : Nat, (q = a ∨ q = a + 5) → h' q = h q) : RDC G h' a ft fp lm pl nt tk wd NM t r := ⟨(fr _ (Or.inl rfl)).trans hA.1, (fr _ (Or.inr rfl)).trans hA.2⟩
theorem TA.keep {G : Gx} {h h' : Hp} {t n : Nat} {T : Nat → Int} (hT : TA G h t n T) (fr : ∀ q : Nat, (q = t ∨ q = t + 1) → h' q = h q) : TA G h' t n T := ⟨(fr _ (Or.inl rfl)).trans hT.1, (fr _ (Or.inr rfl)).trans hT.2⟩
theorem GV.keep {G : Gx} {h h' : Hp} {a : Nat} {V : RV} (hV : GV G h a V) (fr : ∀ q : Nat, a ≤ q → q ≤ a + 2 → h' q = h q) : GV G h' a V := by
  obtain ⟨rw, S, ⟨g1, g2, g3⟩, g4⟩ := hV
  exact ⟨rw, S, ⟨(fr _ (by omega) (by omega)).trans g1, (fr _ (by omega) (by omega)).trans g2, (fr _ (by omega) (by omega)).trans g3⟩, g4⟩
/-- the state of reading: token; items, facts, names; fault, its place; ring -/
abbrev RS : Type := Tk × Nat × Fs × (Nat → Int) × Nat × Nat × RV
noncomputable def rStop (T : Nat → Int) (n lm : Nat) (x : RS) : Prop × RS := ((nxT T n lm x.1).1 = 2, haveI := Classical.propDecidable ((nxT T n lm x.1).1 = 2); if (nxT T n lm x.1).1 = 2 then (nxT T n lm x.1, x.2) else (nxT T n lm x.1, x.2.1, x.2.2.1, x.2.2.2.1, 1, (nxT T n lm x.1).2.1, x.2.2.2.2.2.2))
def RDA (G : Gx) (h : Hp) (a t r lm n : Nat) (x : RS) : Prop := RDC G h a x.2.2.2.2.1 x.2.2.2.2.2.1 lm x.1.2.1 x.1.2.2.1 x.1.1 x.1.2.2.2 x.2.2.2.1 t r ∧ FA G h (a + 1) x.2.1 x.2.2.1 ∧ Sm x.2.1 x.2.2.1 ∧ GV G h r x.2.2.2.2.2.2 ∧ TkO n x.1 ∧ (∀ i, i < x.2.1 → 0 ≤ x.2.2.2.1 i ∧ x.2.2.2.1 i < 34359738368) ∧ x.2.2.2.2.1 ≤ 4 ∧ x.2.2.2.2.2.1 ≤ 740
/-- where the reader's cells lie -/
def Lay (a t r : Nat) : Prop := (a + 5 < t ∨ t + 1 < a) ∧ (a + 5 < r ∨ r + 2 < a) ∧ (t + 1 < r ∨ r + 2 < t)
set_option maxHeartbeats 600000 in
set_option maxRecDepth 100000 in
theorem c_X4_readStop {G : Gx} {h : Hp} {nx a t r lm n : Nat} {T : Nat → Int} {tk pl nt it ft fp : Nat} {wd : Int} {φ : Fs} {NM : Nat → Int} {V : RV} (hA : RDA G h a t r lm n ((tk, pl, nt, wd), it, φ, NM, ft, fp, V)) (hT : TA G h t n T) (hn7 : n ≤ 740) (hlm : lm ≤ n) (hBy : Byt T) (hLa : Lay a t r) : Con G yX4_readStop cX4_readStop 1 (some .boolean) 4 0 0 [.ref a] h nx (PI fun z h' => bz (rStop T n lm ((tk, pl, nt, wd), it, φ, NM, ft, fp, V)).1 z ∧ RDA G h' a t r lm n (rStop T n lm ((tk, pl, nt, wd), it, φ, NM, ft, fp, V)).2 ∧ ∀ q : Nat, (q < a ∨ a < q) → h' q = h q) := by
  obtain ⟨hA0, hF0, hS0, hV0, hk0, hN0, hft, hfp⟩ := hA
  obtain ⟨ha, hn⟩ := id hA0
  obtain ⟨d1, d2, d3⟩ := id hLa
  obtain ⟨tk1, tk2, tk3, tk4⟩ := id hk0
  dsimp only at tk1 tk2 tk3 tk4 hft hfp hN0 hF0 hS0 hV0 ha hn
  refine Con.of v_X4_readStop.2.2.2.2.2.1 (Nat.le_of_ble_eq_true rfl) (lv := [(0, .ref a)]) rfl (fun X k => ?_)
  generalize hQQ : QM G X nx 0 0 _ = QQ
  have fr0 : ∀ q : Nat, (q < a ∨ a < q) → h q = h q := fun _ _ => rfl
  refine g_aload_n k rfl dX4_readStop_0 ?_
  refine g_cVv k 4 (As := []) v_X4_step rfl rfl ha ml_X4_54 (c_X4_step (a := a) ⟨ha, hn⟩ (hT.keep (fun q g1 => fr0 q (by omega))) hn7 hBy d1 hlm (by omega)) (by omega) (by omega) rfl (Nat.le_of_ble_eq_true rfl) rfl dX4_readStop_1 (fun h1 p1 => ?_)
  obtain ⟨⟨na, nn⟩, nfr⟩ := p1
  have ha_ : h1 a = some (ob 4 [vi (ft : Int), .ref (a + 1), vi (fp : Int), vi (lm : Int), vi ((nxT T n lm (tk, pl, nt, wd)).2.1 : Int), vi ((nxT T n lm (tk, pl, nt, wd)).2.2.1 : Int), vi ((nxT T n lm (tk, pl, nt, wd)).1 : Int), vl ((nxT T n lm (tk, pl, nt, wd)).2.2.2), .ref (a + 5), .ref t, .ref r]) := na
  have hn_ : h1 (a + 5) = some (al G 8 NM) := nn
  have fr_ : ∀ q : Nat, (q < a ∨ a < q) → h1 q = h q := fun q hq => (nfr q (by omega)).trans (fr0 q hq)
  have ko1 : TkO n (nxT T n lm (tk, pl, nt, wd)) := stF_ok hlm (by omega)
  obtain ⟨u11, u12, u13, u14⟩ := id ko1
  refine g_aload_n k rfl dX4_readStop_4 ?_
  refine g_get k 4 6 (C := RX4) (T := TX4) (N := 11) fl_X4_57 rfl wi_X4 (by decide) rfl ha_ rfl dX4_readStop_5 ?_
  refine g_iconst k dX4_readStop_8 ?_
  refine g_icmp_eq k (tgt := 24) (by omega) (by omega) dX4_readStop_9 (by decide) (fun c9 => ?_) (fun c9 => ?_)
  · skip
    refine g_iconst k dX4_readStop_24 ?_
    refine g_goto k (tgt := 29) dX4_readStop_25 (by decide) ?_
    rw [← hQQ]
    refine g_zreti k (by omega) rfl dX4_readStop_29 ?_
    have e2 : (nxT T n lm (tk, pl, nt, wd)).1 = 2 := by omega
    unfold rStop
    dsimp only
    rw [if_pos e2]
    exact ⟨bz.y e2, ⟨⟨ha_, hn_⟩, hF0.keep (fun q g1 g2 => fr_ q (by omega)), hS0, hV0.keep (fun q g1 g2 => fr_ q (by omega)), ko1, hN0, hft, hfp⟩, fr_⟩
  · skip
    refine g_aload_n k rfl dX4_readStop_12 ?_
    refine g_iconst k dX4_readStop_13 ?_
    refine g_aload_n k rfl dX4_readStop_14 ?_
    refine g_get k 4 4 (C := RX4) (T := TX4) (N := 11) fl_X4_86 rfl wi_X4 (by decide) rfl ha_ rfl dX4_readStop_15 ?_
    refine g_cVi k 4 (As := [vi 1, vi ((nxT T n lm (tk, pl, nt, wd)).2.1 : Int)]) v_X4_fail rfl rfl ha_ ml_X4_70 (c_X4_fail ⟨ha_, hn_⟩) (by omega) (by omega) rfl (Nat.le_of_ble_eq_true rfl) rfl dX4_readStop_18 (fun r18 h18 p18 => ?_)
    obtain ⟨p18e, ⟨na, nn⟩, nfr⟩ := p18
    subst p18e
    have ha__1 : h18 a = some (ob 4 [vi 1, .ref (a + 1), vi ((nxT T n lm (tk, pl, nt, wd)).2.1 : Int), vi (lm : Int), vi ((nxT T n lm (tk, pl, nt, wd)).2.1 : Int), vi ((nxT T n lm (tk, pl, nt, wd)).2.2.1 : Int), vi ((nxT T n lm (tk, pl, nt, wd)).1 : Int), vl ((nxT T n lm (tk, pl, nt, wd)).2.2.2), .ref (a + 5), .ref t, .ref r]) := na
    have hn__1 : h18 (a + 5) = some (al G 8 NM) := nn
    have fr__1 : ∀ q : Nat, (q < a ∨ a < q) → h18 q = h q := fun q hq => (nfr q (by omega)).trans (fr_ q hq)
    refine g_if_eq k (tgt := 28) (by omega) dX4_readStop_21 (by decide) (fun c21 => ?_) (fun c21 => ?_)
    · skip
      refine g_iconst k dX4_readStop_28 ?_
      rw [← hQQ]
      refine g_zreti k (by omega) rfl dX4_readStop_29 ?_
      have e2 : ¬ (nxT T n lm (tk, pl, nt, wd)).1 = 2 := by omega
      unfold rStop
      dsimp only
      rw [if_neg e2]
      exact ⟨bz.n e2, ⟨⟨ha__1, hn__1⟩, hF0.keep (fun q g1 g2 => fr__1 q (by omega)), hS0, hV0.keep (fun q g1 g2 => fr__1 q (by omega)), ko1, hN0, by dsimp only; omega, by dsimp only; omega⟩, fr__1⟩
    · skip
      omega

noncomputable def rItem (T : Nat → Int) (n lm : Nat) (x : RS) : Prop × RS :=
  haveI := Classical.propDecidable (isNm (nxT T n lm x.1).1 (nxT T n lm x.1).2.2.2)
  if 8 ≤ x.2.1 then (False, (x.1, x.2.1, x.2.2.1, x.2.2.2.1, 3, x.1.2.1, x.2.2.2.2.2.2))
  else if ¬ isNm (nxT T n lm x.1).1 (nxT T n lm x.1).2.2.2 then (False, (nxT T n lm x.1, x.2.1, x.2.2.1, x.2.2.2.1, 1, (nxT T n lm x.1).2.1, x.2.2.2.2.2.2))
  else if ¬ sr (fun i => x.2.2.2.1 i = (nxT T n lm x.1).2.2.2) x.2.1 = -1 then (False, (nxT T n lm x.1, x.2.1, x.2.2.1, x.2.2.2.1, 2, (nxT T n lm x.1).2.1, x.2.2.2.2.2.2))
  else rStop T n lm (nxT T n lm x.1, x.2.1 + 1, x.2.2.1, fu x.2.2.2.1 x.2.1 (nxT T n lm x.1).2.2.2, x.2.2.2.2)
theorem isNm_b {tk wd : Int} (h : isNm tk wd) : tk = 1 := h.1
theorem sr_b {P : Nat → Prop} {n : Nat} : -1 ≤ sr P n ∧ (sr P n < n ∨ sr P n = -1) := by
  rcases sr_is (P := P) (n := n) with ⟨e, -⟩ | ⟨k, e, hk, -⟩ <;> omega
set_option maxHeartbeats 600000 in
set_option maxRecDepth 100000 in
theorem c_X4_readItem {G : Gx} {h : Hp} {nx a t r lm n : Nat} {T : Nat → Int} {tk pl nt it ft fp : Nat} {wd : Int} {φ : Fs} {NM : Nat → Int} {V : RV} (hA : RDA G h a t r lm n ((tk, pl, nt, wd), it, φ, NM, ft, fp, V)) (hT : TA G h t n T) (hn7 : n ≤ 740) (hlm : lm ≤ n) (hBy : Byt T) (hLa : Lay a t r) : Con G yX4_readItem cX4_readItem 1 (some .boolean) 5 0 0 [.ref a] h nx (PI fun z h' => bz (rItem T n lm ((tk, pl, nt, wd), it, φ, NM, ft, fp, V)).1 z ∧ RDA G h' a t r lm n (rItem T n lm ((tk, pl, nt, wd), it, φ, NM, ft, fp, V)).2 ∧ ∀ q : Nat, (q < a ∨ a + 5 < q) → h' q = h q) := by
  obtain ⟨hA0, hF0, hS0, hV0, hk0, hN0, hft, hfp⟩ := hA
  obtain ⟨ha, hn⟩ := id hA0
  obtain ⟨d1, d2, d3⟩ := id hLa
  obtain ⟨tk1, tk2, tk3, tk4⟩ := id hk0
  dsimp only at tk1 tk2 tk3 tk4 hft hfp hN0 hF0 hS0 hV0 ha hn
  obtain ⟨K5, F5, Z5, hd, hdk, hdf, hds, hrr⟩ := id hF0
  have h8 := hS0.1
  refine Con.of v_X4_readItem.2.2.2.2.2.1 (Nat.le_of_ble_eq_true rfl) (lv := [(0, .ref a)]) rfl (fun X k => ?_)
  generalize hQQ : QM G X nx 0 0 _ = QQ
  have fr0 : ∀ q : Nat, (q < a ∨ (a < q ∧ q ≠ a + 1 ∧ q ≠ a + 5)) → h q = h q := fun _ _ => rfl
  refine g_aload_n k rfl dX4_readItem_0 ?_
  refine g_get k 4 1 (C := RX4) (T := TX4) (N := 11) fl_X4_14 rfl wi_X4 (by decide) rfl ha rfl dX4_readItem_1 ?_
  refine g_get k 0 0 (C := RX0) (T := TX0) (N := 5) fl_X4_83 rfl wi_X0 (by decide) rfl hd rfl dX4_readItem_4 ?_
  refine g_bipush k rfl dX4_readItem_7 ?_
  refine g_icmp_lt k (tgt := 22) (by omega) (by omega) dX4_readItem_9 (by decide) (fun c9 => ?_) (fun c9 => ?_)
  · skip
    refine g_aload_n k rfl dX4_readItem_22 ?_
    refine g_cVv k 4 (As := []) v_X4_step rfl rfl ha ml_X4_54 (c_X4_step (a := a) ⟨ha, hn⟩ (hT.keep (fun q g1 => fr0 q (by omega))) hn7 hBy d1 hlm (by omega)) (by omega) (by omega) rfl (Nat.le_of_ble_eq_true rfl) rfl dX4_readItem_23 (fun h23 p23 => ?_)
    obtain ⟨⟨na, nn⟩, nfr⟩ := p23
    have ha_ : h23 a = some (ob 4 [vi (ft : Int), .ref (a + 1), vi (fp : Int), vi (lm : Int), vi ((nxT T n lm (tk, pl, nt, wd)).2.1 : Int), vi ((nxT T n lm (tk, pl, nt, wd)).2.2.1 : Int), vi ((nxT T n lm (tk, pl, nt, wd)).1 : Int), vl ((nxT T n lm (tk, pl, nt, wd)).2.2.2), .ref (a + 5), .ref t, .ref r]) := na
    have hn_ : h23 (a + 5) = some (al G 8 NM) := nn
    have hd_ : h23 (a + 1) = some (ob 0 [vi (it : Int), vi (φ.length : Int), .ref (a + 1 + 1), .ref (a + 1 + 2), .ref (a + 1 + 3)]) := (nfr _ (by omega)).trans hd
    have fr_ : ∀ q : Nat, (q < a ∨ (a < q ∧ q ≠ a + 1 ∧ q ≠ a + 5)) → h23 q = h q := fun q hq => (nfr q (by omega)).trans (fr0 q hq)
    have ko1 : TkO n (nxT T n lm (tk, pl, nt, wd)) := stF_ok hlm (by omega)
    obtain ⟨u11, u12, u13, u14⟩ := id ko1
    refine g_aload_n k rfl dX4_readItem_26 ?_
    refine g_cVi k 4 (As := []) v_X4_isName rfl rfl ha_ ml_X4_89 (c_X4_isName ⟨ha_, hn_⟩ (fun q => u14 (by omega)) (by omega)) (by omega) (by omega) rfl (Nat.le_of_ble_eq_true rfl) rfl dX4_readItem_27 (fun r27 h27 p27 => ?_)
    obtain ⟨eh27, p27⟩ := p27
    have eh27 := eh27.symm; subst eh27
    have q27 := p27
    have q27r := q27.r
    refine g_if_ne k (tgt := 43) (by omega) dX4_readItem_30 (by decide) (fun c30 => ?_) (fun c30 => ?_)
    · skip
      have hnm := q27.t (by omega)
      have hnm1 := isNm_b hnm
      refine g_aload_n k rfl dX4_readItem_43 ?_
      refine g_cVi k 4 (As := []) v_X4_itemNamed rfl rfl ha_ ml_X4_92 (c_X4_itemNamed ⟨ha_, hn_⟩ (u14 (by omega)) h8 hd_ hN0 (K := [])) (by omega) (by omega) rfl (Nat.le_of_ble_eq_true rfl) rfl dX4_readItem_44 (fun r44 h44 p44 => ?_)
      obtain ⟨eh44, p44⟩ := p44
      have eh44 := eh44.symm; subst eh44
      subst p44
      have hsb := sr_b (P := fun i => NM i = (nxT T n lm (tk, pl, nt, wd)).2.2.2) (n := it)
      refine g_iconst k dX4_readItem_47 ?_
      refine g_icmp_eq k (tgt := 61) (by omega) (by omega) dX4_readItem_48 (by decide) (fun c48 => ?_) (fun c48 => ?_)
      · skip
        refine g_aload_n k rfl dX4_readItem_61 ?_
        refine g_get k 4 8 (C := RX4) (T := TX4) (N := 11) fl_X4_18 rfl wi_X4 (by decide) rfl ha_ rfl dX4_readItem_62 ?_
        refine g_aload_n k rfl dX4_readItem_65 ?_
        refine g_get k 4 1 (C := RX4) (T := TX4) (N := 11) fl_X4_14 rfl wi_X4 (by decide) rfl ha_ rfl dX4_readItem_66 ?_
        refine g_get k 0 0 (C := RX0) (T := TX0) (N := 5) fl_X4_83 rfl wi_X0 (by decide) rfl hd_ rfl dX4_readItem_69 ?_
        refine g_aload_n k rfl dX4_readItem_72 ?_
        refine g_get k 4 7 (C := RX4) (T := TX4) (N := 11) fl_X4_77 rfl wi_X4 (by decide) rfl ha_ rfl dX4_readItem_73 ?_
        refine g_last k it hn_ (by omega) (by omega) (by decide) dX4_readItem_76 (fun h76 eh76 => ?_)
        have ha__1 : h76 a = some (ob 4 [vi (ft : Int), .ref (a + 1), vi (fp : Int), vi (lm : Int), vi ((nxT T n lm (tk, pl, nt, wd)).2.1 : Int), vi ((nxT T n lm (tk, pl, nt, wd)).2.2.1 : Int), vi ((nxT T n lm (tk, pl, nt, wd)).1 : Int), vl ((nxT T n lm (tk, pl, nt, wd)).2.2.2), .ref (a + 5), .ref t, .ref r]) := (congrFun eh76 _).trans ((hup_n (by omega)).trans ha_)
        have hn__1 : h76 (a + 5) = some (al G 8 (fu NM it ((nxT T n lm (tk, pl, nt, wd)).2.2.2))) := (congrFun eh76 _).trans hup_s
        have hd__1 : h76 (a + 1) = some (ob 0 [vi (it : Int), vi (φ.length : Int), .ref (a + 1 + 1), .ref (a + 1 + 2), .ref (a + 1 + 3)]) := (congrFun eh76 _).trans ((hup_n (by omega)).trans hd_)
        have fr__1 : ∀ q : Nat, (q < a ∨ (a < q ∧ q ≠ a + 1 ∧ q ≠ a + 5)) → h76 q = h q := fun q hq => (congrFun eh76 q).trans ((hup_n (by omega)).trans (fr_ q hq))
        refine g_aload_n k rfl dX4_readItem_77 ?_
        refine g_get k 4 1 (C := RX4) (T := TX4) (N := 11) fl_X4_14 rfl wi_X4 (by decide) rfl ha__1 rfl dX4_readItem_78 ?_
        refine g_dup k rfl dX4_readItem_81 ?_
        refine g_get k 0 0 (C := RX0) (T := TX0) (N := 5) fl_X4_83 rfl wi_X0 (by decide) rfl hd__1 rfl dX4_readItem_82 ?_
        refine g_iconst k dX4_readItem_85 ?_
        refine g_iadd k dX4_readItem_86 ?_
        refine g_put k 0 0 (C := RX0) (T := TX0) (N := 5) fl_X4_83 rfl wi_X0 tyX0 tyX0_ok nmX0 (by decide) rfl rfl rfl rfl hd__1 (Nat.le_of_ble_eq_true rfl) (fs2 := [vi ((it : Int) + 1), vi (φ.length : Int), .ref (a + 1 + 1), .ref (a + 1 + 2), .ref (a + 1 + 3)]) rfl rfl dX4_readItem_87 (fun h87 eh87 => ?_)
        have ha__2 : h87 a = some (ob 4 [vi (ft : Int), .ref (a + 1), vi (fp : Int), vi (lm : Int), vi ((nxT T n lm (tk, pl, nt, wd)).2.1 : Int), vi ((nxT T n lm (tk, pl, nt, wd)).2.2.1 : Int), vi ((nxT T n lm (tk, pl, nt, wd)).1 : Int), vl ((nxT T n lm (tk, pl, nt, wd)).2.2.2), .ref (a + 5), .ref t, .ref r]) := (congrFun eh87 _).trans ((hup_n (by omega)).trans ha__1)
        have hn__2 : h87 (a + 5) = some (al G 8 (fu NM it ((nxT T n lm (tk, pl, nt, wd)).2.2.2))) := (congrFun eh87 _).trans ((hup_n (by omega)).trans hn__1)
        have hd__2 : h87 (a + 1) = some (ob 0 [vi ((it : Int) + 1), vi (φ.length : Int), .ref (a + 1 + 1), .ref (a + 1 + 2), .ref (a + 1 + 3)]) := (congrFun eh87 _).trans hup_s
        have fr__2 : ∀ q : Nat, (q < a ∨ (a < q ∧ q ≠ a + 1 ∧ q ≠ a + 5)) → h87 q = h q := fun q hq => (congrFun eh87 q).trans ((hup_n (by omega)).trans (fr__1 q hq))
        have hA2 : RDA G h87 a t r lm n ((nxT T n lm (tk, pl, nt, wd)), it + 1, φ, fu NM it (nxT T n lm (tk, pl, nt, wd)).2.2.2, ft, fp, V) := by
          refine ⟨⟨ha__2, hn__2⟩, ⟨K5, F5, Z5, hd__2, (fr__2 _ (by omega)).trans hdk, (fr__2 _ (by omega)).trans hdf, (fr__2 _ (by omega)).trans hds, hrr⟩, ⟨by dsimp only; omega, hS0.2.1, fun i hi => by have hq := hS0.2.2 i hi; dsimp only at hq ⊢; exact ⟨hq.1, by omega, by omega, hq.2.2.2⟩⟩, hV0.keep (fun q g1 g2 => fr__2 q (by omega)), ko1, fun i hi => ?_, hft, hfp⟩
          dsimp only at hi ⊢
          by_cases e : i = it
          · subst e; rw [fu_s]; exact u14 (by omega)
          · rw [fu_n e]; exact hN0 i (by omega)
        refine g_aload_n k rfl dX4_readItem_90 ?_
        refine g_cVi k 4 (As := []) v_X4_readStop rfl rfl ha__2 ml_X4_96 (c_X4_readStop (tk := (nxT T n lm (tk, pl, nt, wd)).1) (pl := (nxT T n lm (tk, pl, nt, wd)).2.1) (nt := (nxT T n lm (tk, pl, nt, wd)).2.2.1) (wd := (nxT T n lm (tk, pl, nt, wd)).2.2.2) (it := it + 1) hA2 (hT.keep (fun q g1 => fr__2 q (by omega))) hn7 hlm hBy hLa) (by omega) (by omega) rfl (Nat.le_of_ble_eq_true rfl) rfl dX4_readItem_91 (fun r91 h91 p91 => ?_)
        obtain ⟨pz, nRD, nfr9⟩ := p91
        have fr__3 : ∀ q : Nat, (q < a ∨ (a < q ∧ q ≠ a + 1 ∧ q ≠ a + 5)) → h91 q = h q := fun q hq => (nfr9 q (by omega)).trans (fr__2 q hq)
        have pzr := pz.r
        rw [← hQQ]
        refine g_zreti k (by omega) rfl dX4_readItem_94 ?_
        have ei : rItem T n lm ((tk, pl, nt, wd), it, φ, NM, ft, fp, V) = rStop T n lm ((nxT T n lm (tk, pl, nt, wd)), it + 1, φ, fu NM it (nxT T n lm (tk, pl, nt, wd)).2.2.2, ft, fp, V) := by
          unfold rItem
          dsimp only
          rw [if_neg (by omega), if_neg (fun z => z hnm), if_neg (by omega)]
        rw [ei]
        exact ⟨pz, nRD, fun q hq => fr__3 q (by omega)⟩
      · skip
        refine g_aload_n k rfl dX4_readItem_51 ?_
        refine g_iconst k dX4_readItem_52 ?_
        refine g_aload_n k rfl dX4_readItem_53 ?_
        refine g_get k 4 4 (C := RX4) (T := TX4) (N := 11) fl_X4_86 rfl wi_X4 (by decide) rfl ha_ rfl dX4_readItem_54 ?_
        refine g_cVi k 4 (As := [vi 2, vi ((nxT T n lm (tk, pl, nt, wd)).2.1 : Int)]) v_X4_fail rfl rfl ha_ ml_X4_70 (c_X4_fail ⟨ha_, hn_⟩) (by omega) (by omega) rfl (Nat.le_of_ble_eq_true rfl) rfl dX4_readItem_57 (fun r57 h57 p57 => ?_)
        obtain ⟨p57e, ⟨na, nn⟩, nfr⟩ := p57
        subst p57e
        have ha__4 : h57 a = some (ob 4 [vi 2, .ref (a + 1), vi ((nxT T n lm (tk, pl, nt, wd)).2.1 : Int), vi (lm : Int), vi ((nxT T n lm (tk, pl, nt, wd)).2.1 : Int), vi ((nxT T n lm (tk, pl, nt, wd)).2.2.1 : Int), vi ((nxT T n lm (tk, pl, nt, wd)).1 : Int), vl ((nxT T n lm (tk, pl, nt, wd)).2.2.2), .ref (a + 5), .ref t, .ref r]) := na
        have hn__4 : h57 (a + 5) = some (al G 8 NM) := nn
        have hd__4 : h57 (a + 1) = some (ob 0 [vi (it : Int), vi (φ.length : Int), .ref (a + 1 + 1), .ref (a + 1 + 2), .ref (a + 1 + 3)]) := (nfr _ (by omega)).trans hd_
        have fr__4 : ∀ q : Nat, (q < a ∨ (a < q ∧ q ≠ a + 1 ∧ q ≠ a + 5)) → h57 q = h q := fun q hq => (nfr q (by omega)).trans (fr_ q hq)
        rw [← hQQ]
        refine g_zreti k (by omega) rfl dX4_readItem_60 ?_
        unfold rItem
        dsimp only
        rw [if_neg (by omega), if_neg (fun z => z hnm), if_pos (by omega)]
        exact ⟨bz.n (fun q => q), ⟨⟨ha__4, hn__4⟩, ⟨K5, F5, Z5, hd__4, (fr__4 _ (by omega)).trans hdk, (fr__4 _ (by omega)).trans hdf, (fr__4 _ (by omega)).trans hds, hrr⟩, hS0, hV0.keep (fun q g1 g2 => fr__4 q (by omega)), ko1, hN0, by dsimp only; omega, by dsimp only; omega⟩, fun q hq => fr__4 q (by omega)⟩
    · skip
      refine g_aload_n k rfl dX4_readItem_33 ?_
      refine g_iconst k dX4_readItem_34 ?_
      refine g_aload_n k rfl dX4_readItem_35 ?_
      refine g_get k 4 4 (C := RX4) (T := TX4) (N := 11) fl_X4_86 rfl wi_X4 (by decide) rfl ha_ rfl dX4_readItem_36 ?_
      refine g_cVi k 4 (As := [vi 1, vi ((nxT T n lm (tk, pl, nt, wd)).2.1 : Int)]) v_X4_fail rfl rfl ha_ ml_X4_70 (c_X4_fail ⟨ha_, hn_⟩) (by omega) (by omega) rfl (Nat.le_of_ble_eq_true rfl) rfl dX4_readItem_39 (fun r39 h39 p39 => ?_)
      obtain ⟨p39e, ⟨na, nn⟩, nfr⟩ := p39
      subst p39e
      have ha__5 : h39 a = some (ob 4 [vi 1, .ref (a + 1), vi ((nxT T n lm (tk, pl, nt, wd)).2.1 : Int), vi (lm : Int), vi ((nxT T n lm (tk, pl, nt, wd)).2.1 : Int), vi ((nxT T n lm (tk, pl, nt, wd)).2.2.1 : Int), vi ((nxT T n lm (tk, pl, nt, wd)).1 : Int), vl ((nxT T n lm (tk, pl, nt, wd)).2.2.2), .ref (a + 5), .ref t, .ref r]) := na
      have hn__5 : h39 (a + 5) = some (al G 8 NM) := nn
      have hd__5 : h39 (a + 1) = some (ob 0 [vi (it : Int), vi (φ.length : Int), .ref (a + 1 + 1), .ref (a + 1 + 2), .ref (a + 1 + 3)]) := (nfr _ (by omega)).trans hd_
      have fr__5 : ∀ q : Nat, (q < a ∨ (a < q ∧ q ≠ a + 1 ∧ q ≠ a + 5)) → h39 q = h q := fun q hq => (nfr q (by omega)).trans (fr_ q hq)
      rw [← hQQ]
      refine g_zreti k (by omega) rfl dX4_readItem_42 ?_
      unfold rItem
      dsimp only
      rw [if_neg (by omega), if_pos (q27.f (by omega))]
      exact ⟨bz.n (fun q => q), ⟨⟨ha__5, hn__5⟩, ⟨K5, F5, Z5, hd__5, (fr__5 _ (by omega)).trans hdk, (fr__5 _ (by omega)).trans hdf, (fr__5 _ (by omega)).trans hds, hrr⟩, hS0, hV0.keep (fun q g1 g2 => fr__5 q (by omega)), ko1, hN0, by dsimp only; omega, by dsimp only; omega⟩, fun q hq => fr__5 q (by omega)⟩
  · skip
    refine g_aload_n k rfl dX4_readItem_12 ?_
    refine g_iconst k dX4_readItem_13 ?_
    refine g_aload_n k rfl dX4_readItem_14 ?_
    refine g_get k 4 4 (C := RX4) (T := TX4) (N := 11) fl_X4_86 rfl wi_X4 (by decide) rfl ha rfl dX4_readItem_15 ?_
    refine g_cVi k 4 (As := [vi 3, vi (pl : Int)]) v_X4_fail rfl rfl ha ml_X4_70 (c_X4_fail ⟨ha, hn⟩) (by omega) (by omega) rfl (Nat.le_of_ble_eq_true rfl) rfl dX4_readItem_18 (fun r18 h18 p18 => ?_)
    obtain ⟨p18e, ⟨na, nn⟩, nfr⟩ := p18
    subst p18e
    have ha__6 : h18 a = some (ob 4 [vi 3, .ref (a + 1), vi (pl : Int), vi (lm : Int), vi (pl : Int), vi (nt : Int), vi (tk : Int), vl wd, .ref (a + 5), .ref t, .ref r]) := na
    have hn__6 : h18 (a + 5) = some (al G 8 NM) := nn
    have hd__6 : h18 (a + 1) = some (ob 0 [vi (it : Int), vi (φ.length : Int), .ref (a + 1 + 1), .ref (a + 1 + 2), .ref (a + 1 + 3)]) := (nfr _ (by omega)).trans hd
    have fr__6 : ∀ q : Nat, (q < a ∨ (a < q ∧ q ≠ a + 1 ∧ q ≠ a + 5)) → h18 q = h q := fun q hq => (nfr q (by omega)).trans (fr0 q hq)
    rw [← hQQ]
    refine g_zreti k (by omega) rfl dX4_readItem_21 ?_
    unfold rItem
    dsimp only
    rw [if_pos (by omega)]
    exact ⟨bz.n (fun q => q), ⟨⟨ha__6, hn__6⟩, ⟨K5, F5, Z5, hd__6, (fr__6 _ (by omega)).trans hdk, (fr__6 _ (by omega)).trans hdf, (fr__6 _ (by omega)).trans hds, hrr⟩, hS0, hV0.keep (fun q g1 g2 => fr__6 q (by omega)), hk0, hN0, by dsimp only; omega, by dsimp only; omega⟩, fun q hq => fr__6 q (by omega)⟩

theorem php : ∀ (N n : Nat) (g : Nat → Nat), (∀ i, i < n → g i < N) → (∀ i j, i < n → j < n → g i = g j → i = j) → n ≤ N
  | 0, n, g, h1, _ => by
    rcases Nat.eq_zero_or_pos n with e | e
    · omega
    · exact absurd (h1 0 e) (Nat.not_lt_zero _)
  | N + 1, n, g, h1, h2 => by
    by_cases he : ∃ i, i < n ∧ g i = N
    · obtain ⟨i, hi, hgi⟩ := he
      obtain ⟨m, rfl⟩ : ∃ m, n = m + 1 := ⟨n - 1, by omega⟩
      have := php N m (fun j => if j = i then g m else g j) (fun j hj => by
          try dsimp only
          split
          · rename_i e
            have g1 := h1 m (by omega)
            have g2 : g m ≠ N := fun q => by have := h2 m i (by omega) hi (q.trans hgi.symm); omega
            omega
          · rename_i e
            have g1 := h1 j (by omega)
            have g2 : g j ≠ N := fun q => e (h2 j i (by omega) hi (q.trans hgi.symm))
            omega) (fun x y hx hy e => by
          try dsimp only at e
          by_cases c1 : x = i
          · by_cases c2 : y = i
            · omega
            · rw [if_pos c1, if_neg c2] at e
              have := h2 m y (by omega) (by omega) e; omega
          · by_cases c2 : y = i
            · rw [if_neg c1, if_pos c2] at e
              have := h2 x m (by omega) (by omega) e; omega
            · rw [if_neg c1, if_neg c2] at e
              exact h2 x y (by omega) (by omega) e)
      omega
    · have := php N n g (fun j hj => by have g1 := h1 j hj; have g2 : g j ≠ N := fun e => he ⟨j, hj, e⟩; omega) h2
      omega
def tri (x y : Nat) : Nat := if x < y then y * (y - 1) / 2 + x else x * (x - 1) / 2 + y
theorem tri_lt : ∀ x, x < 8 → ∀ y, y < 8 → x ≠ y → tri x y < 28 := by decide
theorem tri_injB : ((List.range 8).all fun x => (List.range 8).all fun y => (List.range 8).all fun u => (List.range 8).all fun v => (x == y) || (u == v) || !(tri x y == tri u v) || ((x == u && y == v) || (x == v && y == u))) = true := by decide +kernel
theorem tri_inj : ∀ x, x < 8 → ∀ y, y < 8 → ∀ u, u < 8 → ∀ v, v < 8 → x ≠ y → u ≠ v → tri x y = tri u v → (x = u ∧ y = v) ∨ (x = v ∧ y = u) := by
  intro x hx y hy u hu v hv h1 h2 h3
  have a := List.all_eq_true.mp (List.all_eq_true.mp (List.all_eq_true.mp (List.all_eq_true.mp tri_injB x (List.mem_range.mpr hx)) y (List.mem_range.mpr hy)) u (List.mem_range.mpr hu)) v (List.mem_range.mpr hv)
  simp only [Bool.or_eq_true, Bool.and_eq_true, Bool.not_eq_true', beq_iff_eq, beq_eq_false_iff_ne] at a
  rcases a with ((a | a) | a) | a
  · exact absurd a h1
  · exact absurd a h2
  · exact absurd h3 a
  · exact a
theorem ix_none {φ : Fs} {a b : Int} (h : ix φ a b = -1) : ∀ j, j < φ.length → ¬ pm φ a b j := by
  unfold ix at h
  rcases sr_is (P := pm φ a b) (n := φ.length) with ⟨-, hn⟩ | ⟨k, e, -⟩
  · exact hn
  · omega
theorem len28 {it : Nat} {φ : Fs} (hS : Sm it φ) {x y : Nat} (hx : x < it) (hy : y < it) (hne : x ≠ y) (h : ix φ (x : Int) (y : Int) = -1) : φ.length < 28 := by
  obtain ⟨h8, -, hs⟩ := hS
  have hno := ix_none h
  have := php 28 (φ.length + 1) (fun i => if i = φ.length then tri x y else tri (fi φ i) (se φ i)) (fun i hi => by
      try dsimp only
      split
      · exact tri_lt x (by omega) y (by omega) hne
      · have := hs i (by omega); exact tri_lt _ (by omega) _ (by omega) this.2.2.2.1) (fun i j hi hj e => by
      try dsimp only at e
      have key : ∀ i, i < φ.length → tri (fi φ i) (se φ i) ≠ tri x y := fun i hi e => by
        have q := hs i hi
        have := tri_inj _ (by omega) _ (by omega) x (by omega) y (by omega) q.2.2.2.1 hne e
        exact hno i hi (by unfold pm; omega)
      have key2 : ∀ i j, i < φ.length → j < i → tri (fi φ j) (se φ j) ≠ tri (fi φ i) (se φ i) := fun i j hi hj e => by
        have q := hs i hi
        have q2 := hs j (by omega)
        have := tri_inj _ (by omega) _ (by omega) _ (by omega) _ (by omega) q2.2.2.2.1 q.2.2.2.1 e
        exact q.2.2.2.2 j hj (by omega)
      by_cases c1 : i = φ.length
      · by_cases c2 : j = φ.length
        · omega
        · rw [if_pos c1, if_neg c2] at e; exact absurd e.symm (key j (by omega))
      · by_cases c2 : j = φ.length
        · rw [if_neg c1, if_pos c2] at e; exact absurd e (key i (by omega))
        · rw [if_neg c1, if_neg c2] at e
          rcases Nat.lt_trichotomy i j with q | q | q
          · exact absurd e (key2 j i (by omega) q)
          · exact q
          · exact absurd e.symm (key2 i j (by omega) q))
  omega
theorem Sm.add {it : Nat} {φ : Fs} (hS : Sm it φ) {k x y : Nat} (hk : k ≤ 1) (hx : x < it) (hy : y < it) (hne : x ≠ y) (h : ix φ (x : Int) (y : Int) = -1) : Sm it (φ ++ [(k, x, y)]) := by
  have hl := len28 hS hx hy hne h
  have hno := ix_none h
  have at1 : ∀ i, i < φ.length → kd (φ ++ [(k, x, y)]) i = kd φ i ∧ fi (φ ++ [(k, x, y)]) i = fi φ i ∧ se (φ ++ [(k, x, y)]) i = se φ i := fun i hi => by
    simp only [kd, fi, se, List.getD_eq_getElem?_getD, List.getElem?_append_left hi, and_self]
  have at2 : kd (φ ++ [(k, x, y)]) φ.length = k ∧ fi (φ ++ [(k, x, y)]) φ.length = x ∧ se (φ ++ [(k, x, y)]) φ.length = y := by
    simp [kd, fi, se, List.getD_eq_getElem?_getD]
  have el : (φ ++ [(k, x, y)]).length = φ.length + 1 := by rw [List.length_append]; rfl
  refine ⟨hS.1, by omega, fun i hi => ?_⟩
  by_cases e : i = φ.length
  · subst e
    rw [at2.1, at2.2.1, at2.2.2]
    refine ⟨hk, hx, hy, hne, fun j hj q => ?_⟩
    rw [(at1 j hj).2.1, (at1 j hj).2.2] at q
    exact hno j hj (by unfold pm; omega)
  · have hi2 : i < φ.length := by omega
    rw [(at1 i hi2).1, (at1 i hi2).2.1, (at1 i hi2).2.2]
    have q := hS.2.2 i hi2
    refine ⟨q.1, q.2.1, q.2.2.1, q.2.2.2.1, fun j hj => ?_⟩
    rw [(at1 j (by omega)).2.1, (at1 j (by omega)).2.2]
    exact q.2.2.2.2 j hj
