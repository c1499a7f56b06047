/-! the reference: its reader, rows -/
theorem sr_ext {P Q : Nat → Prop} {n : Nat} (h : ∀ i, i < n → (P i ↔ Q i)) : sr P n = sr Q n := by
  rcases sr_is (P := P) (n := n) with ⟨e, g⟩ | ⟨k, e, h1, h2, h3⟩
  · rw [e, sr_miss (fun j hj q => g j hj ((h j hj).mpr q))]
  · rw [e, sr_hit h1 ((h k h1).mp h2) (fun j hj q => h3 j hj ((h j (by omega)).mpr q))]
def lmF (n : Nat) : Nat := if 700 < n then 700 else n
theorem lmF_le (n : Nat) : lmF n ≤ n := by unfold lmF; split <;> omega
def kwF (x y : Int) : Int := if x = 2 then (if y = 31484543 then 0 else if y = 31735670 then 1 else -1) else -1
theorem kwF_r (x y : Int) : -1 ≤ kwF x y ∧ kwF x y ≤ 1 := by unfold kwF; (repeat' split) <;> omega
def KwO (w : Int) : Prop := w = 72564293 ∨ w = 72983685
def kxE (k : Nat) (w : Int) : Prop := k = if w = 72564293 then 0 else 1
theorem TkR.w {n : Nat} {t : Tk} {s : Nat → Int} (h : TkR n t s) (h3 : t.1 ≤ 3) : (s 5 = 2 → 0 ≤ s 8 ∧ s 8 < 10460353203) ∧ (0 ≤ s 5 ∧ s 5 ≤ 3) ∧ (s 5 = 2 ↔ t.1 = 1) ∧ (s 5 = 3 ↔ t.1 = 2) ∧ (s 5 = 0 ↔ t.1 = 0 ∧ n ≤ 700) := by
  obtain ⟨h1, -, -, h2⟩ := h
  have hm : (t.1 = 0 ∧ 700 < n ∧ mS n t.1 = 1) ∨ (t.1 = 0 ∧ n ≤ 700 ∧ mS n t.1 = 0) ∨ (t.1 = 1 ∧ mS n t.1 = 2) ∨ (t.1 = 2 ∧ mS n t.1 = 3) ∨ (t.1 = 3 ∧ mS n t.1 = 1) := by
    unfold mS
    (repeat' split) <;> omega
  refine ⟨fun q => Wr_b (h2 (by omega)), by omega, by omega, by omega, by omega⟩
theorem TkR.nm {n : Nat} {t : Tk} {s : Nat → Int} (h : TkR n t s) (h3 : t.1 ≤ 3) : isNm (t.1 : Int) t.2.2.2 ↔ (s 5 = 2 ∧ s 8 ≠ 191875 ∧ s 8 ≠ 31484543 ∧ s 8 ≠ 31735670) := by
  obtain ⟨-, -, e1, -, -⟩ := h.w h3
  unfold isNm
  constructor
  · rintro ⟨a, b, c, d⟩
    have hw := h.2.2.2 (by omega)
    exact ⟨by omega, fun q => b ((Wr_eq hw Wr_item).mpr q), fun q => c ((Wr_eq hw Wr_before).mpr q), fun q => d ((Wr_eq hw Wr_beside).mpr q)⟩
  · rintro ⟨a, b, c, d⟩
    have hw := h.2.2.2 (by omega)
    exact ⟨by omega, fun q => b ((Wr_eq hw Wr_item).mp q), fun q => c ((Wr_eq hw Wr_before).mp q), fun q => d ((Wr_eq hw Wr_beside).mp q)⟩
theorem st_mono {T : Nat → Int} {n lm nt : Nat} {wd : Int} : nt ≤ (stF T n lm nt wd).2.2.1 ∧ ((stF T n lm nt wd).1 ≠ 0 → nt ≤ (stF T n lm nt wd).2.1 ∧ (stF T n lm nt wd).2.1 < lm ∧ (stF T n lm nt wd).2.1 + 1 ≤ (stF T n lm nt wd).2.2.1 + (if nt < nt then 1 else 1) - 1 + 1) := by
  have hb := skF_b (T := T) (lm - nt) nt
  by_cases e : lm ≤ skF T (lm - nt) nt
  · rw [st_end e]
    exact ⟨hb.1, fun q => absurd rfl q⟩
  · by_cases g : isLt (T (skF T (lm - nt) nt))
    · rw [st_word rfl (by omega) g]
      have := leF_b (T := T) (n - skF T (lm - nt) nt) (skF T (lm - nt) nt)
      exact ⟨by dsimp only; omega, fun _ => ⟨hb.1, by dsimp only; omega, by dsimp only; rw [if_neg (by omega)]; omega⟩⟩
    · rw [st_sign rfl (by omega) g]
      exact ⟨by dsimp only; omega, fun _ => ⟨hb.1, by dsimp only; omega, by dsimp only; rw [if_neg (by omega)]; omega⟩⟩
theorem nx_mono {T : Nat → Int} {n lm : Nat} {t : Tk} : t.2.2.1 ≤ (nxT T n lm t).2.2.1 := st_mono.1
theorem nx_pl {T : Nat → Int} {n lm : Nat} {t : Tk} (h : (nxT T n lm t).1 ≠ 0) : t.2.2.1 ≤ (nxT T n lm t).2.1 ∧ (nxT T n lm t).2.1 < lm := by
  have := st_mono.2 h
  exact ⟨this.1, this.2.1⟩
def MRs (s s0 : Nat → Int) : Prop := ∀ j, (j = 0 ∨ j = 1 ∨ j = 2 ∨ j = 9 ∨ 17 < j) → s j = s0 j
def MRV (s : Nat → Int) (V : RV) : Prop := s 14 = V.1 - 1 ∧ s 17 = V.2.1 ∧ s 15 = V.2.2.1 ∧ s 16 = V.2.2.2.1
def MRC (G : Gx) (h : Hp) (m : Nat) (s0 T : Nat → Int) (y : RS) (s : Nat → Int) : Prop := h m = some (mo m s) ∧ MRs s s0 ∧ h (m + 1) = some (ai G 740 T) ∧ aN G y.2.1 y.2.2.1 (h (m + 3)) ∧ (∃ N9 : Nat → Int, h (m + 9) = some (al G 8 N9) ∧ ∀ i, i < y.2.1 → Wr (y.2.2.2.1 i) (N9 i)) ∧ aI G 72 (h (m + 12)) ∧ aI G 8 (h (m + 13)) ∧ aV G y.2.2.2.2.2.2 (h (m + 14)) ∧ MRV s y.2.2.2.2.2.2 ∧ s 6 = (y.2.2.2.2.1 : Int)
theorem Sm_it {it : Nat} {φ : Fs} (h : Sm it φ) (h8 : it + 1 ≤ 8) : Sm (it + 1) φ := ⟨h8, h.2.1, fun i hi => by
  obtain ⟨a, b, c, d, e⟩ := h.2.2 i hi
  exact ⟨a, by omega, by omega, d, e⟩⟩
theorem kz_y {n : Nat} {t : Tk} {s : Nat → Int} (h : TkR n t s) (h3 : t.1 ≤ 3) (g : ¬ kwF (s 5) (s 8) = -1) : t.1 = 1 ∧ KwO t.2.2.2 ∧ ∃ k : Nat, kwF (s 5) (s 8) = (k : Int) ∧ k ≤ 1 ∧ kxE k t.2.2.2 := by
  obtain ⟨-, -, e1, -, -⟩ := h.w h3
  unfold kwF at g ⊢
  by_cases g0 : s 5 = 2
  · have hw := h.2.2.2 (by omega)
    have w1 := Wr_eq hw Wr_before
    have w2 := Wr_eq hw Wr_beside
    rw [if_pos g0] at g ⊢
    by_cases g1 : s 8 = 31484543
    · exact ⟨by omega, Or.inl (w1.mpr g1), 0, by rw [if_pos g1]; rfl, by decide, by unfold kxE; rw [if_pos (w1.mpr g1)]⟩
    · rw [if_neg g1] at g ⊢
      by_cases g2 : s 8 = 31735670
      · exact ⟨by omega, Or.inr (w2.mpr g2), 1, by rw [if_pos g2]; rfl, by decide, by unfold kxE; rw [if_neg (fun q => g1 (w1.mp q))]⟩
      · rw [if_neg g2] at g; exact absurd rfl g
  · rw [if_neg g0] at g; exact absurd rfl g
theorem kz_n {n : Nat} {t : Tk} {s : Nat → Int} (h : TkR n t s) (h3 : t.1 ≤ 3) (g : kwF (s 5) (s 8) = -1) : ¬ (t.1 = 1 ∧ (t.2.2.2 = 72564293 ∨ t.2.2.2 = 72983685)) := by
  obtain ⟨-, -, e1, -, -⟩ := h.w h3
  rintro ⟨q1, q2⟩
  have hw := h.2.2.2 q1
  have w1 := Wr_eq hw Wr_before
  have w2 := Wr_eq hw Wr_beside
  unfold kwF at g
  rw [if_pos (by omega)] at g
  rcases q2 with q | q
  · rw [if_pos (w1.mp q)] at g; omega
  · split at g
    · omega
    · rw [if_pos (w2.mp q)] at g; omega
set_option maxHeartbeats 600000 in
set_option maxRecDepth 100000 in
theorem c_X10_readEnd {G : Gx} {h : Hp} {nx : Nat} {m : Nat} {s : Nat → Int} (hm : h m = some (mo m s)) {T : Nat → Int} (hT : h (m + 1) = some (ai G 740 T)) {n lm : Nat} (z2 : s 2 = (n : Int)) (hn7 : n ≤ 740) (hBy : Byt T) (hlm : lm = lmF n) {t : Tk} (hK : TkR n t s) (hO : TkO n t) : Con G yX10_readEnd cX10_readEnd 1 (some .boolean) 3 0 0 [.ref m] h nx (PI fun z h' => bz (t.1 = 2) z ∧ (∃ s2 : Nat → Int, h' m = some (mo m s2) ∧ (∀ j, (j < 3 ∨ 8 < j) → s2 j = s j) ∧ (t.1 = 2 → TkR n (nxT T n lm t) s2 ∧ s2 6 = s 6) ∧ (¬ t.1 = 2 → s2 6 = 1 ∧ s2 7 = (t.2.1 : Int))) ∧ ∀ q : Nat, q ≠ m → h' q = h q) := by
  obtain ⟨w1, w2, w3, w4, w5⟩ := hK.w hO.1
  obtain ⟨o1, o2, o3, o4⟩ := id hO
  refine Con.of v_X10_readEnd.2.2.2.2.2.1 (Nat.le_of_ble_eq_true rfl) (lv := [(0, .ref m)]) rfl (fun X k => ?_)
  generalize hQQ : QM G X nx 0 0 _ = QQ
  have fr0 : ∀ q : Nat, q ≠ m → h q = h q := fun _ _ => rfl
  refine g_aload_n k rfl dX10_readEnd_0 ?_
  refine g_get k 10 6 (C := RX10) (T := TX10) (N := 38) fl_X10_27 rfl wi_X10 (by decide) rfl hm rfl dX10_readEnd_1 ?_
  refine g_iconst k dX10_readEnd_4 ?_
  refine g_icmp_eq k (tgt := 14) (by omega) (by omega) dX10_readEnd_5 (by decide) (fun c5 => ?_) (fun c5 => ?_)
  · skip
    refine g_aload_n k rfl dX10_readEnd_14 ?_
    refine g_cVv k 10 (As := []) v_X10_next rfl rfl hm ml_X10_130 (c_X10_next hm hT z2 hn7 hBy (hK.2.2.1 (by omega)) o3 hlm t.2.2.2) (by omega) (by omega) rfl (Nat.le_of_ble_eq_true rfl) rfl dX10_readEnd_15 (fun h15 p15 => ?_)
    obtain ⟨⟨s1, nm1, hk1, hT1⟩, nfr1⟩ := p15
    have hm_ : h15 m = some (mo m s1) := nm1
    have hT_ : h15 (m + 1) = some (ai G 740 T) := (nfr1 _ (by omega)).trans hT
    have fr_ : ∀ q : Nat, q ≠ m → h15 q = h q := fun q hq => (nfr1 q (by omega)).trans (fr0 q hq)
    refine g_iconst k dX10_readEnd_18 ?_
    rw [← hQQ]
    refine g_zreti k (Or.inr rfl) rfl dX10_readEnd_19 ?_
    exact ⟨bz.y (by omega), ⟨s1, hm_, fun j hj => hk1 j (by omega), fun _ => ⟨hT1, hk1 6 (by omega)⟩, fun q => absurd (show t.1 = 2 by omega) q⟩, fr_⟩
  · skip
    refine g_aload_n k rfl dX10_readEnd_8 ?_
    refine g_iconst k dX10_readEnd_9 ?_
    refine g_cVi k 10 (As := [vi 1]) v_X10_bad rfl rfl hm ml_X10_127 (c_X10_bad hm w2 (p := 1)) (by omega) (by omega) rfl (Nat.le_of_ble_eq_true rfl) rfl dX10_readEnd_10 (fun r10 h10 p10 => ?_)
    obtain ⟨p10e, nm, nfr⟩ := p10
    subst p10e
    have hm__1 : h10 m = some (mo m (fu (fu s 6 1) 7 (s 4))) := (by rw [nm]; rw [show (if s 5 = 1 then (1 : Int) else 1) = 1 by split <;> rfl])
    have hT__1 : h10 (m + 1) = some (ai G 740 T) := (nfr _ (by omega)).trans hT
    have fr__1 : ∀ q : Nat, q ≠ m → h10 q = h q := fun q hq => (nfr q (by omega)).trans (fr0 q hq)
    rw [← hQQ]
    refine g_zreti k (Or.inl rfl) rfl dX10_readEnd_13 ?_
    exact ⟨bz.n (by omega), ⟨_, hm__1, fun j hj => by rw [fu_n (by omega), fu_n (by omega)], fun q => absurd q (by omega), fun _ => ⟨rfl, hK.2.1⟩⟩, fr__1⟩

set_option maxHeartbeats 2600000 in
set_option maxRecDepth 100000 in
theorem c_X10_readItem {G : Gx} {h : Hp} {nx m n lm : Nat} {T s0 s NM : Nat → Int} {tk pl nt it ft fp : Nat} {wd : Int} {φ : Fs} {V : RV} (hC : MRC G h m s0 T ((tk, pl, nt, wd), it, φ, NM, ft, fp, V) s) (hK : TkR n (tk, pl, nt, wd) s) (hO : TkO n (tk, pl, nt, wd)) (hS : Sm it φ) (hG : Good φ) (z20 : s0 2 = (n : Int)) (hn7 : n ≤ 740) (hBy : Byt T) (hlm : lm = lmF n) (htk : tk = 1) : Con G yX10_readItem cX10_readItem 1 (some .boolean) 5 0 0 [.ref m] h nx (PI fun z h' => bz (rItem T n lm ((tk, pl, nt, wd), it, φ, NM, ft, fp, V)).1 z ∧ (∃ s2 : Nat → Int, MRC G h' m s0 T (rItem T n lm ((tk, pl, nt, wd), it, φ, NM, ft, fp, V)).2 s2 ∧ ((rItem T n lm ((tk, pl, nt, wd), it, φ, NM, ft, fp, V)).1 → TkR n (nxT T n lm (rItem T n lm ((tk, pl, nt, wd), it, φ, NM, ft, fp, V)).2.1) s2 ∧ TkO n (rItem T n lm ((tk, pl, nt, wd), it, φ, NM, ft, fp, V)).2.1 ∧ Sm (rItem T n lm ((tk, pl, nt, wd), it, φ, NM, ft, fp, V)).2.2.1 (rItem T n lm ((tk, pl, nt, wd), it, φ, NM, ft, fp, V)).2.2.2.1 ∧ Good (rItem T n lm ((tk, pl, nt, wd), it, φ, NM, ft, fp, V)).2.2.2.1 ∧ nt ≤ (rItem T n lm ((tk, pl, nt, wd), it, φ, NM, ft, fp, V)).2.1.2.2.1 ∧ (rItem T n lm ((tk, pl, nt, wd), it, φ, NM, ft, fp, V)).2.2.2.2.2.1 = ft) ∧ (¬ (rItem T n lm ((tk, pl, nt, wd), it, φ, NM, ft, fp, V)).1 → s2 7 = ((rItem T n lm ((tk, pl, nt, wd), it, φ, NM, ft, fp, V)).2.2.2.2.2.2.1 : Int) ∧ (rItem T n lm ((tk, pl, nt, wd), it, φ, NM, ft, fp, V)).2.2.2.2.2.1 ≠ 0)) ∧ ∀ q : Nat, (q ≠ m ∧ q ≠ m + 3 ∧ q ≠ m + 9) → h' q = h q) := by
  unfold MRC at hC
  dsimp only at hC
  obtain ⟨hm, hms, hT, ⟨Nr, hr, hR⟩, ⟨N9, h9, hN9⟩, hb12, hr13, hv14, hV, z6⟩ := hC
  have hms0 := hms
  have hln : lm ≤ n := by rw [hlm]; exact lmF_le n
  have z2 : s 2 = (n : Int) := (hms 2 (by omega)).trans z20
  have o1 : tk ≤ 3 := hO.1
  have o3 : nt ≤ n := hO.2.2.1
  obtain ⟨h8, h28, -⟩ := id hS
  have w2 := (hK.w hO.1).2.1
  have hk4 : s 4 = (pl : Int) := hK.2.1
  have hN9b : ∀ i, i < it → 0 ≤ N9 i ∧ N9 i < 10460353203 := fun i hi => Wr_b (hN9 i hi)
  have w52 : s 5 = 2 := (hK.w hO.1).2.2.1.mpr htk
  refine Con.of v_X10_readItem.2.2.2.2.2.1 (Nat.le_of_ble_eq_true rfl) (lv := [(0, .ref m)]) rfl (fun X k => ?_)
  generalize hQQ : QM G X nx 0 0 _ = QQ
  have fr0 : ∀ q : Nat, (q ≠ m ∧ q ≠ m + 3 ∧ q ≠ m + 9) → h q = h q := fun _ _ => rfl
  refine g_aload_n k rfl dX10_readItem_0 ?_
  refine g_get k 10 11 (C := RX10) (T := TX10) (N := 38) fl_X10_77 rfl wi_X10 (by decide) rfl hm rfl dX10_readItem_1 ?_
  refine g_iconst k dX10_readItem_4 ?_
  refine g_iald k 0 hr (by omega) (by omega) (by decide) dX10_readItem_5 ?_
  rw [show Nr 0 = (it : Int) from hR.i]
  refine g_bipush k rfl dX10_readItem_6 ?_
  refine g_icmp_ne k (tgt := 17) (by omega) (by omega) dX10_readItem_8 (by decide) (fun c8 => ?_) (fun c8 => ?_)
  · skip
    refine g_aload_n k rfl dX10_readItem_17 ?_
    refine g_cVv k 10 (As := []) v_X10_next rfl rfl hm ml_X10_130 (c_X10_next hm hT (z2) hn7 hBy (hK.2.2.1 (by show tk ≠ 0; omega)) (o3) hlm (tk, pl, nt, wd).2.2.2) (by omega) (by omega) rfl (Nat.le_of_ble_eq_true rfl) rfl dX10_readItem_18 (fun h18 p18 => ?_)
    obtain ⟨⟨s1, nm1, hk1, hT1⟩, nfr1⟩ := p18
    have hm_ : h18 m = some (mo m s1) := nm1
    have hT_ : h18 (m + 1) = some (ai G 740 T) := (nfr1 _ (by omega)).trans hT
    have hr_ : h18 (m + 3) = some (ai G 86 Nr) := (nfr1 _ (by omega)).trans hr
    have h9_ : h18 (m + 9) = some (al G 8 N9) := (nfr1 _ (by omega)).trans h9
    have fr_ : ∀ q : Nat, (q ≠ m ∧ q ≠ m + 3 ∧ q ≠ m + 9) → h18 q = h q := fun q hq => (nfr1 q (by omega)).trans (fr0 q hq)
    have hT1 : TkR n (nxT T n lm (tk, pl, nt, wd)) s1 := hT1
    have ko1 : TkO n (nxT T n lm (tk, pl, nt, wd)) := stF_ok hln o3
    have u11 : (nxT T n lm (tk, pl, nt, wd)).1 ≤ 3 := ko1.1
    have u13 : (nxT T n lm (tk, pl, nt, wd)).2.2.1 ≤ n := ko1.2.2.1
    have v12 := (hT1.w u11).2.1
    have z21 : s1 2 = (n : Int) := (hk1 2 (by omega)).trans z2
    have g14 : s1 4 = ((nxT T n lm (tk, pl, nt, wd)).2.1 : Int) := hT1.2.1
    have hsb := sr_b (P := fun i => N9 i = s1 8) (n := it)
    refine g_aload_n k rfl dX10_readItem_21 ?_
    refine g_cVi k 10 (As := []) v_X10_isName rfl rfl hm_ ml_X10_133 (c_X10_isName hm_ (hT1.w u11).1 v12) (by omega) (by omega) rfl (Nat.le_of_ble_eq_true rfl) rfl dX10_readItem_22 (fun r22 h22 p22 => ?_)
    obtain ⟨eh22, p22⟩ := p22
    have eh22 := eh22.symm; subst eh22
    have q22 := p22
    have q22r := q22.r
    refine g_if_ne k (tgt := 34) (by omega) dX10_readItem_25 (by decide) (fun c25 => ?_) (fun c25 => ?_)
    · skip
      have hnm := (hT1.nm u11).mpr (q22.t (by omega))
      have hs52 : s1 5 = 2 := (q22.t (by omega)).1
      have hnm1 := isNm_b hnm
      have hwr := hT1.2.2.2 (by omega)
      have eN : sr (fun i => N9 i = s1 8) it = sr (fun i => NM i = (nxT T n lm (tk, pl, nt, wd)).2.2.2) it := sr_ext (fun i hi => (Wr_eq (hN9 i hi) (hwr)).symm)
      refine g_aload_n k rfl dX10_readItem_34 ?_
      refine g_cVi k 10 (As := []) v_X10_named rfl rfl hm_ ml_X10_136 (c_X10_named hm_ hr_ hR.i h8 h9_ ((hT1.w u11).1 hs52) hN9b) (by omega) (by omega) rfl (Nat.le_of_ble_eq_true rfl) rfl dX10_readItem_35 (fun r35 h35 p35 => ?_)
      obtain ⟨eh35, p35⟩ := p35
      have eh35 := eh35.symm; subst eh35
      subst p35
      refine g_iconst k dX10_readItem_38 ?_
      refine g_icmp_eq k (tgt := 48) (by omega) (by omega) dX10_readItem_39 (by decide) (fun c39 => ?_) (fun c39 => ?_)
      · skip
        refine g_aload_n k rfl dX10_readItem_48 ?_
        refine g_get k 10 17 (C := RX10) (T := TX10) (N := 38) fl_X10_95 rfl wi_X10 (by decide) rfl hm_ rfl dX10_readItem_49 ?_
        refine g_aload_n k rfl dX10_readItem_52 ?_
        refine g_get k 10 11 (C := RX10) (T := TX10) (N := 38) fl_X10_77 rfl wi_X10 (by decide) rfl hm_ rfl dX10_readItem_53 ?_
        refine g_iconst k dX10_readItem_56 ?_
        refine g_iald k 0 hr_ (by omega) (by omega) (by decide) dX10_readItem_57 ?_
        rw [show Nr 0 = (it : Int) from hR.i]
        refine g_aload_n k rfl dX10_readItem_58 ?_
        refine g_get k 10 9 (C := RX10) (T := TX10) (N := 38) fl_X10_34 rfl wi_X10 (by decide) rfl hm_ rfl dX10_readItem_59 ?_
        refine g_last k it h9_ (by omega) (by omega) (by decide) dX10_readItem_62 (fun h62 eh62 => ?_)
        have hm__1 : h62 m = some (mo m s1) := (congrFun eh62 _).trans ((hup_n (by omega)).trans hm_)
        have hT__1 : h62 (m + 1) = some (ai G 740 T) := (congrFun eh62 _).trans ((hup_n (by omega)).trans hT_)
        have hr__1 : h62 (m + 3) = some (ai G 86 Nr) := (congrFun eh62 _).trans ((hup_n (by omega)).trans hr_)
        have h9__1 : h62 (m + 9) = some (al G 8 (fu N9 it (s1 8))) := (congrFun eh62 _).trans hup_s
        have fr__1 : ∀ q : Nat, (q ≠ m ∧ q ≠ m + 3 ∧ q ≠ m + 9) → h62 q = h q := fun q hq => (congrFun eh62 q).trans ((hup_n (by omega)).trans (fr_ q hq))
        refine g_aload_n k rfl dX10_readItem_63 ?_
        refine g_get k 10 11 (C := RX10) (T := TX10) (N := 38) fl_X10_77 rfl wi_X10 (by decide) rfl hm__1 rfl dX10_readItem_64 ?_
        refine g_iconst k dX10_readItem_67 ?_
        refine g_dup2 k rfl rfl dX10_readItem_68 ?_
        refine g_iald k 0 hr__1 (by omega) (by omega) (by decide) dX10_readItem_69 ?_
        rw [show Nr 0 = (it : Int) from hR.i]
        refine g_iconst k dX10_readItem_70 ?_
        refine g_iadd k dX10_readItem_71 ?_
        refine g_iast k 0 hr__1 (by omega) (by omega) (by decide) dX10_readItem_72 (fun h72 eh72 => ?_)
        have hm__2 : h72 m = some (mo m s1) := (congrFun eh72 _).trans ((hup_n (by omega)).trans hm__1)
        have hT__2 : h72 (m + 1) = some (ai G 740 T) := (congrFun eh72 _).trans ((hup_n (by omega)).trans hT__1)
        have hr__2 : h72 (m + 3) = some (ai G 86 (fu Nr 0 ((it : Int) + 1))) := (congrFun eh72 _).trans hup_s
        have h9__2 : h72 (m + 9) = some (al G 8 (fu N9 it (s1 8))) := (congrFun eh72 _).trans ((hup_n (by omega)).trans h9__1)
        have fr__2 : ∀ q : Nat, (q ≠ m ∧ q ≠ m + 3 ∧ q ≠ m + 9) → h72 q = h q := fun q hq => (congrFun eh72 q).trans ((hup_n (by omega)).trans (fr__1 q hq))
        refine g_aload_n k rfl dX10_readItem_73 ?_
        refine g_cVv k 10 (As := []) v_X10_next rfl rfl hm__2 ml_X10_130 (c_X10_next hm__2 hT__2 (z21) hn7 hBy (hT1.2.2.1 (by omega)) (u13) hlm (nxT T n lm (tk, pl, nt, wd)).2.2.2) (by omega) (by omega) rfl (Nat.le_of_ble_eq_true rfl) rfl dX10_readItem_74 (fun h74 p74 => ?_)
        obtain ⟨⟨s2, nm2, hk2, hT2⟩, nfr2⟩ := p74
        have hm__3 : h74 m = some (mo m s2) := nm2
        have hT__3 : h74 (m + 1) = some (ai G 740 T) := (nfr2 _ (by omega)).trans hT__2
        have hr__3 : h74 (m + 3) = some (ai G 86 (fu Nr 0 ((it : Int) + 1))) := (nfr2 _ (by omega)).trans hr__2
        have h9__3 : h74 (m + 9) = some (al G 8 (fu N9 it (s1 8))) := (nfr2 _ (by omega)).trans h9__2
        have fr__3 : ∀ q : Nat, (q ≠ m ∧ q ≠ m + 3 ∧ q ≠ m + 9) → h74 q = h q := fun q hq => (nfr2 q (by omega)).trans (fr__2 q hq)
        have hT2 : TkR n (nxT T n lm (nxT T n lm (tk, pl, nt, wd))) s2 := hT2
        have ko2 : TkO n (nxT T n lm (nxT T n lm (tk, pl, nt, wd))) := stF_ok hln u13
        have u21 : (nxT T n lm (nxT T n lm (tk, pl, nt, wd))).1 ≤ 3 := ko2.1
        have u23 : (nxT T n lm (nxT T n lm (tk, pl, nt, wd))).2.2.1 ≤ n := ko2.2.2.1
        have v22 := (hT2.w u21).2.1
        have z22 : s2 2 = (n : Int) := (hk2 2 (by omega)).trans z21
        have g24 : s2 4 = ((nxT T n lm (nxT T n lm (tk, pl, nt, wd))).2.1 : Int) := hT2.2.1
        refine g_aload_n k rfl dX10_readItem_77 ?_
        refine g_cVi k 10 (As := []) v_X10_readEnd rfl rfl hm__3 ml_X10_139 (c_X10_readEnd hm__3 hT__3 z22 hn7 hBy hlm hT2 ko2) (by omega) (by omega) rfl (Nat.le_of_ble_eq_true rfl) rfl dX10_readItem_78 (fun r78 h78 p78 => ?_)
        obtain ⟨hz, ⟨s3, nm3, hk3, hy3, hn3⟩, nfr3⟩ := p78
        have hm__4 : h78 m = some (mo m s3) := nm3
        have hT__4 : h78 (m + 1) = some (ai G 740 T) := (nfr3 _ (by omega)).trans hT__3
        have hr__4 : h78 (m + 3) = some (ai G 86 (fu Nr 0 ((it : Int) + 1))) := (nfr3 _ (by omega)).trans hr__3
        have h9__4 : h78 (m + 9) = some (al G 8 (fu N9 it (s1 8))) := (nfr3 _ (by omega)).trans h9__3
        have fr__4 : ∀ q : Nat, (q ≠ m ∧ q ≠ m + 3 ∧ q ≠ m + 9) → h78 q = h q := fun q hq => (nfr3 q (by omega)).trans (fr__3 q hq)
        rw [← hQQ]
        refine g_zreti k hz.rg rfl dX10_readItem_81 ?_
        have eI : rItem T n lm ((tk, pl, nt, wd), it, φ, NM, ft, fp, V) = rStop T n lm ((nxT T n lm (tk, pl, nt, wd)), it + 1, φ, (fu NM it (nxT T n lm (tk, pl, nt, wd)).2.2.2), ft, fp, V) := by
          unfold rItem
          dsimp only
          rw [if_neg (by omega), if_neg (fun q => q hnm), if_neg (by rw [← eN]; omega)]
        rw [eI]
        have hcl : ∀ y1 : RS, y1.2.1 = it + 1 → y1.2.2.1 = φ → y1.2.2.2.1 = (fu NM it (nxT T n lm (tk, pl, nt, wd)).2.2.2) → y1.2.2.2.2.2.2 = V → s3 6 = (y1.2.2.2.2.1 : Int) → MRC G h78 m s0 T y1 s3 := by
          intro y1 a1 a2 a3 a4 a5
          unfold MRC
          rw [a1, a2, a3, a4]
          refine ⟨hm__4, fun j hj => (hk3 j (by omega)).trans ((hk2 j (by omega)).trans ((hk1 j (by omega)).trans (hms j hj))), hT__4, ⟨_, hr__4, ⟨by rw [fu_s]; rfl, by rw [fu_n (by omega)]; exact hR.n, fun i hi => by rw [fu_n (by omega), fu_n (by omega), fu_n (by omega)]; exact hR.2.2 i hi⟩⟩, ⟨_, h9__4, fun i hi => ?_⟩, by rw [fr__4 (m + 12) (by omega)]; exact hb12, by rw [fr__4 (m + 13) (by omega)]; exact hr13, by rw [fr__4 (m + 14) (by omega)]; exact hv14, ⟨((hk3 _ (by omega)).trans ((hk2 _ (by omega)).trans (hk1 _ (by omega)))).trans hV.1, ((hk3 _ (by omega)).trans ((hk2 _ (by omega)).trans (hk1 _ (by omega)))).trans hV.2.1, ((hk3 _ (by omega)).trans ((hk2 _ (by omega)).trans (hk1 _ (by omega)))).trans hV.2.2.1, ((hk3 _ (by omega)).trans ((hk2 _ (by omega)).trans (hk1 _ (by omega)))).trans hV.2.2.2⟩, a5⟩
          by_cases e : i = it
          · rw [e, fu_s, fu_s]; exact hwr
          · rw [fu_n e, fu_n e]; exact hN9 i (by omega)
        have h66 : s2 6 = (ft : Int) := (hk2 6 (by omega)).trans ((hk1 6 (by omega)).trans z6)
        unfold rStop
        by_cases g : (nxT T n lm (nxT T n lm (tk, pl, nt, wd))).1 = 2
        · rw [if_pos g]
          refine ⟨?_, ⟨s3, hcl _ rfl rfl rfl rfl ((hy3 g).2.trans h66), fun _ => ⟨(hy3 g).1, ko2, Sm_it hS (by omega), hG, Nat.le_trans (nx_mono (t := (tk, pl, nt, wd))) nx_mono, rfl⟩, fun q => absurd g q⟩, fr__4⟩
          exact hz
        · rw [if_neg g]
          refine ⟨?_, ⟨s3, hcl _ rfl rfl rfl rfl (hn3 g).1, fun q => absurd q g, fun _ => ⟨(hn3 g).2, (show (1 : Nat) ≠ 0 by decide)⟩⟩, fr__4⟩
          exact hz
      · skip
        refine g_aload_n k rfl dX10_readItem_42 ?_
        refine g_iconst k dX10_readItem_43 ?_
        refine g_cVi k 10 (As := [vi 2]) v_X10_bad rfl rfl hm_ ml_X10_127 (c_X10_bad hm_ v12 (p := 2)) (by omega) (by omega) rfl (Nat.le_of_ble_eq_true rfl) rfl dX10_readItem_44 (fun r44 h44 p44 => ?_)
        obtain ⟨p44e, nm9, nfr9⟩ := p44
        subst p44e
        have hm__5 : h44 m = some (mo m (fu (fu s1 6 2) 7 (s1 4))) := (by rw [nm9]; rw [show (if s1 5 = 1 then (1 : Int) else 2) = 2 by rw [if_neg (by omega)]])
        have hT__5 : h44 (m + 1) = some (ai G 740 T) := (nfr9 _ (by omega)).trans hT_
        have hr__5 : h44 (m + 3) = some (ai G 86 Nr) := (nfr9 _ (by omega)).trans hr_
        have h9__5 : h44 (m + 9) = some (al G 8 N9) := (nfr9 _ (by omega)).trans h9_
        have fr__5 : ∀ q : Nat, (q ≠ m ∧ q ≠ m + 3 ∧ q ≠ m + 9) → h44 q = h q := fun q hq => (nfr9 q (by omega)).trans (fr_ q hq)
        rw [← hQQ]
        refine g_zreti k (Or.inl rfl) rfl dX10_readItem_47 ?_
        unfold rItem
        dsimp only
        rw [if_neg (by omega), if_neg (fun q => q hnm), if_pos (by rw [← eN]; omega)]
        dsimp only
        exact ⟨bz.n (fun q => q), ⟨_, ⟨hm__5, (fun j hj => by rw [fu_n (by omega), fu_n (by omega)]; exact (fun j hj => (hk1 j (by omega)).trans (hms j hj)) j hj), hT__5, ⟨_, hr__5, hR⟩, ⟨N9, h9__5, hN9⟩, by rw [fr__5 (m + 12) (by omega)]; exact hb12, by rw [fr__5 (m + 13) (by omega)]; exact hr13, by rw [fr__5 (m + 14) (by omega)]; exact hv14, ⟨(hk1 _ (by omega)).trans hV.1, (hk1 _ (by omega)).trans hV.2.1, (hk1 _ (by omega)).trans hV.2.2.1, (hk1 _ (by omega)).trans hV.2.2.2⟩, rfl⟩, fun q => absurd q id, fun _ => ⟨g14, by decide⟩⟩, fr__5⟩
    · skip
      refine g_aload_n k rfl dX10_readItem_28 ?_
      refine g_iconst k dX10_readItem_29 ?_
      refine g_cVi k 10 (As := [vi 1]) v_X10_bad rfl rfl hm_ ml_X10_127 (c_X10_bad hm_ v12 (p := 1)) (by omega) (by omega) rfl (Nat.le_of_ble_eq_true rfl) rfl dX10_readItem_30 (fun r30 h30 p30 => ?_)
      obtain ⟨p30e, nm9, nfr9⟩ := p30
      subst p30e
      have hm__6 : h30 m = some (mo m (fu (fu s1 6 1) 7 (s1 4))) := (by rw [nm9]; rw [show (if s1 5 = 1 then (1 : Int) else 1) = 1 by split <;> rfl])
      have hT__6 : h30 (m + 1) = some (ai G 740 T) := (nfr9 _ (by omega)).trans hT_
      have hr__6 : h30 (m + 3) = some (ai G 86 Nr) := (nfr9 _ (by omega)).trans hr_
      have h9__6 : h30 (m + 9) = some (al G 8 N9) := (nfr9 _ (by omega)).trans h9_
      have fr__6 : ∀ q : Nat, (q ≠ m ∧ q ≠ m + 3 ∧ q ≠ m + 9) → h30 q = h q := fun q hq => (nfr9 q (by omega)).trans (fr_ q hq)
      rw [← hQQ]
      refine g_zreti k (Or.inl rfl) rfl dX10_readItem_33 ?_
      unfold rItem
      dsimp only
      rw [if_neg (by omega), if_pos (fun q => q22.f (by omega) ((hT1.nm u11).mp q))]
      dsimp only
      exact ⟨bz.n (fun q => q), ⟨_, ⟨hm__6, (fun j hj => by rw [fu_n (by omega), fu_n (by omega)]; exact (fun j hj => (hk1 j (by omega)).trans (hms j hj)) j hj), hT__6, ⟨_, hr__6, hR⟩, ⟨N9, h9__6, hN9⟩, by rw [fr__6 (m + 12) (by omega)]; exact hb12, by rw [fr__6 (m + 13) (by omega)]; exact hr13, by rw [fr__6 (m + 14) (by omega)]; exact hv14, ⟨(hk1 _ (by omega)).trans hV.1, (hk1 _ (by omega)).trans hV.2.1, (hk1 _ (by omega)).trans hV.2.2.1, (hk1 _ (by omega)).trans hV.2.2.2⟩, rfl⟩, fun q => absurd q id, fun _ => ⟨g14, by decide⟩⟩, fr__6⟩
  · skip
    refine g_aload_n k rfl dX10_readItem_11 ?_
    refine g_iconst k dX10_readItem_12 ?_
    refine g_cVi k 10 (As := [vi 3]) v_X10_bad rfl rfl hm ml_X10_127 (c_X10_bad hm w2 (p := 3)) (by omega) (by omega) rfl (Nat.le_of_ble_eq_true rfl) rfl dX10_readItem_13 (fun r13 h13 p13 => ?_)
    obtain ⟨p13e, nm9, nfr9⟩ := p13
    subst p13e
    have hm__7 : h13 m = some (mo m (fu (fu s 6 3) 7 (s 4))) := (by rw [nm9]; rw [show (if s 5 = 1 then (1 : Int) else 3) = 3 by rw [if_neg (by omega)]])
    have hT__7 : h13 (m + 1) = some (ai G 740 T) := (nfr9 _ (by omega)).trans hT
    have hr__7 : h13 (m + 3) = some (ai G 86 Nr) := (nfr9 _ (by omega)).trans hr
    have h9__7 : h13 (m + 9) = some (al G 8 N9) := (nfr9 _ (by omega)).trans h9
    have fr__7 : ∀ q : Nat, (q ≠ m ∧ q ≠ m + 3 ∧ q ≠ m + 9) → h13 q = h q := fun q hq => (nfr9 q (by omega)).trans (fr0 q hq)
    rw [← hQQ]
    refine g_zreti k (Or.inl rfl) rfl dX10_readItem_16 ?_
    unfold rItem
    dsimp only
    rw [if_pos (by omega)]
    dsimp only
    exact ⟨bz.n (fun q => q), ⟨_, ⟨hm__7, (fun j hj => by rw [fu_n (by omega), fu_n (by omega)]; exact (fun j hj => hms j hj) j hj), hT__7, ⟨_, hr__7, hR⟩, ⟨N9, h9__7, hN9⟩, by rw [fr__7 (m + 12) (by omega)]; exact hb12, by rw [fr__7 (m + 13) (by omega)]; exact hr13, by rw [fr__7 (m + 14) (by omega)]; exact hv14, ⟨(rfl).trans hV.1, (rfl).trans hV.2.1, (rfl).trans hV.2.2.1, (rfl).trans hV.2.2.2⟩, rfl⟩, fun q => absurd q id, fun _ => ⟨hk4, by decide⟩⟩, fr__7⟩

