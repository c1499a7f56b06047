/-! the reference: its reader, tokens -/
def wd7 (T : Nat → Int) (p : Nat) : Nat → Int
  | 0 => 0
  | k + 1 => 27 * wd7 T p k + T (p + k) - 96
def Lts (T : Nat → Int) (p k : Nat) : Prop := ∀ j, p ≤ j → j < p + k → isLt (T j)
theorem wd7_b {T : Nat → Int} {p : Nat} : ∀ k, Lts T p k → 0 ≤ wd7 T p k ∧ wd7 T p k < 27 ^ k
  | 0, _ => by unfold wd7; decide
  | k + 1, h => by
    have ih := wd7_b k (fun j h1 h2 => h j h1 (by omega))
    have hl := h (p + k) (by omega) (by omega)
    unfold isLt at hl
    rw [wd7, Int.pow_succ]
    omega
theorem wd_eq {T U : Nat → Int} {p q : Nat} : ∀ k l, Lts T p k → Lts U q l → (wdF T p k = wdF U q l ↔ wd7 T p k = wd7 U q l)
  | 0, 0, _, _ => Iff.rfl
  | 0, l + 1, _, h2 => by
    have a := wdF_b (T := U) (p := q) l (fun j g1 g2 => h2 j g1 (by omega))
    have b := wd7_b (T := U) (p := q) l (fun j g1 g2 => h2 j g1 (by omega))
    have c := h2 (q + l) (by omega) (by omega)
    unfold isLt at c
    rw [wdF, wdF, wd7, wd7]
    omega
  | k + 1, 0, h1, _ => by
    have a := wdF_b (T := T) (p := p) k (fun j g1 g2 => h1 j g1 (by omega))
    have b := wd7_b (T := T) (p := p) k (fun j g1 g2 => h1 j g1 (by omega))
    have c := h1 (p + k) (by omega) (by omega)
    unfold isLt at c
    rw [wdF, wdF, wd7, wd7]
    omega
  | k + 1, l + 1, h1, h2 => by
    have ih := wd_eq (T := T) (U := U) (p := p) (q := q) k l (fun j g1 g2 => h1 j g1 (by omega)) (fun j g1 g2 => h2 j g1 (by omega))
    have c := h1 (p + k) (by omega) (by omega)
    have d := h2 (q + l) (by omega) (by omega)
    unfold isLt at c d
    rw [wdF, wdF, wd7, wd7]
    constructor
    · intro e
      have e1 : wdF T p k = wdF U q l := by omega
      have := ih.mp e1
      omega
    · intro e
      have e1 : wd7 T p k = wd7 U q l := by omega
      have := ih.mpr e1
      omega
/-- one word as both number it -/
def Wr (a b : Int) : Prop := ∃ (T : Nat → Int) (p k : Nat), k ≤ 7 ∧ Lts T p k ∧ a = wdF T p k ∧ b = wd7 T p k
theorem Wr_eq {a b c d : Int} (h : Wr a b) (g : Wr c d) : a = c ↔ b = d := by
  obtain ⟨T, p, k, h1, h2, rfl, rfl⟩ := h
  obtain ⟨U, q, l, g1, g2, rfl, rfl⟩ := g
  exact wd_eq k l h2 g2
theorem Wr_b {a b : Int} (h : Wr a b) : 0 ≤ b ∧ b < 10460353203 := by
  obtain ⟨T, p, k, h1, h2, rfl, rfl⟩ := h
  have := wd7_b k h2
  have h3 : (27 : Int) ^ k ≤ 10460353203 := by
    have : ∀ k : Nat, k < 8 → (27 : Int) ^ k ≤ 10460353203 := by decide
    exact this k (by omega)
  omega
theorem Wr_item : Wr 315565 191875 := ⟨fun j => if j = 0 then 105 else if j = 1 then 116 else if j = 2 then 101 else 109, 0, 4, by decide, fun j _ h => by unfold isLt; dsimp only; (repeat' split) <;> omega, rfl, rfl⟩
theorem Wr_before : Wr 72564293 31484543 := ⟨fun j => if j = 0 then 98 else if j = 1 then 101 else if j = 2 then 102 else if j = 3 then 111 else if j = 4 then 114 else 101, 0, 6, by decide, fun j _ h => by unfold isLt; dsimp only; (repeat' split) <;> omega, rfl, rfl⟩
theorem Wr_beside : Wr 72983685 31735670 := ⟨fun j => if j = 0 then 98 else if j = 1 then 101 else if j = 2 then 115 else if j = 3 then 105 else if j = 4 then 100 else 101, 0, 6, by decide, fun j _ h => by unfold isLt; dsimp only; (repeat' split) <;> omega, rfl, rfl⟩
def mS (n t : Nat) : Int := if t = 0 then (if 700 < n then 1 else 0) else if t = 1 then 2 else if t = 2 then 3 else 1
def TkR (n : Nat) (t : Tk) (s : Nat → Int) : Prop := s 5 = mS n t.1 ∧ s 4 = (t.2.1 : Int) ∧ (t.1 ≠ 0 → s 3 = (t.2.2.1 : Int)) ∧ (t.1 = 1 → Wr t.2.2.2 (s 8))
theorem skF_stop {T : Nat → Int} : ∀ k p, skF T k p < p + k → ¬ isB (T (skF T k p))
  | 0, p, h => by unfold skF at h; omega
  | k + 1, p, h => by
    unfold skF at h ⊢
    by_cases e : isB (T p)
    · rw [if_pos e] at h ⊢; exact skF_stop k (p + 1) (by omega)
    · rw [if_neg e]; exact e
theorem skF_more {T : Nat → Int} {d : Nat} : ∀ k p, skF T k p < p + k → skF T (k + d) p = skF T k p
  | 0, p, h => by unfold skF at h; omega
  | k + 1, p, h => by
    rw [show k + 1 + d = k + d + 1 by omega]
    unfold skF at h ⊢
    by_cases e : isB (T p)
    · rw [if_pos e] at h; rw [if_pos e, if_pos e]; exact skF_more k (p + 1) (by omega)
    · rw [if_neg e, if_neg e]
theorem skF_up {T : Nat → Int} {d : Nat} : ∀ k p, skF T k p ≤ skF T (k + d) p
  | 0, p => by rw [Nat.zero_add]; exact (skF_b d p).1
  | k + 1, p => by
    rw [show k + 1 + d = k + d + 1 by omega]
    unfold skF
    by_cases e : isB (T p)
    · rw [if_pos e, if_pos e]; exact skF_up k (p + 1)
    · rw [if_neg e, if_neg e]; exact Nat.le_refl _
theorem sk_lm {T : Nat → Int} {n lm nt : Nat} (h1 : lm ≤ n) (h2 : nt ≤ n) : (skF T (lm - nt) nt < lm → skF T (n - nt) nt = skF T (lm - nt) nt) ∧ (lm ≤ skF T (lm - nt) nt → lm ≤ skF T (n - nt) nt) := by
  constructor
  · intro h
    have := (skF_b (T := T) (lm - nt) nt).1
    rw [show n - nt = lm - nt + (n - lm) by omega]
    exact skF_more _ _ (by omega)
  · intro h
    by_cases e : lm ≤ nt
    · have := (skF_b (T := T) (n - nt) nt).1
      omega
    · have := skF_up (T := T) (d := n - lm) (lm - nt) nt
      rw [show lm - nt + (n - lm) = n - nt by omega] at this
      omega
theorem skF_at {T : Nat → Int} {k p : Nat} (h : ¬ isB (T p)) : skF T k p = p := by
  cases k with
  | zero => rfl
  | succ k => unfold skF; rw [if_neg h]
theorem skF_y {T : Nat → Int} {k p : Nat} (h : isB (T p)) : skF T (k + 1) p = skF T k (p + 1) := by
  rw [skF, if_pos h]
theorem leF_at {T : Nat → Int} {k p : Nat} (h : ¬ isLt (T p)) : leF T k p = p := by
  cases k with
  | zero => rfl
  | succ k => unfold leF; rw [if_neg h]
theorem leF_y {T : Nat → Int} {k p : Nat} (h : isLt (T p)) : leF T (k + 1) p = leF T k (p + 1) := by
  rw [leF, if_pos h]
theorem st_end {T : Nat → Int} {n lm nt : Nat} {wd : Int} (h : lm ≤ skF T (lm - nt) nt) : stF T n lm nt wd = (0, lm, skF T (lm - nt) nt, wd) := by unfold stF; rw [if_pos h]
theorem st_word {T : Nat → Int} {n lm nt a : Nat} {wd : Int} (e : skF T (lm - nt) nt = a) (h : a < lm) (hl : isLt (T a)) : stF T n lm nt wd = ((if leF T (n - a) a - a ≤ 7 then 1 else 3), a, leF T (n - a) a, wdF T a (leF T (n - a) a - a)) := by unfold stF; rw [e, if_neg (by omega), if_pos hl]
theorem st_sign {T : Nat → Int} {n lm nt a : Nat} {wd : Int} (e : skF T (lm - nt) nt = a) (h : a < lm) (hl : ¬ isLt (T a)) : stF T n lm nt wd = ((if T a = 59 then 2 else 3), a, a + 1, wd) := by unfold stF; rw [e, if_neg (by omega), if_neg hl]
set_option maxHeartbeats 600000 in
set_option maxRecDepth 100000 in
theorem c_X10_tapeAt {G : Gx} {h : Hp} {nx : Nat} {m : Nat} {s : Nat → Int} (hm : h m = some (mo m s)) {T : Nat → Int} (hT : h (m + 1) = some (ai G 740 T)) {n p : Nat} (z2 : s 2 = (n : Int)) (hn7 : n ≤ 740) (hp : p ≤ 800) : Con G yX10_tapeAt cX10_tapeAt 2 (some .int) 1 0 0 [.ref m, vi (p : Int)] h nx (PI fun z h' => h' = h ∧ z = (if p < n then T p else 0)) := by
  refine Con.of v_X10_tapeAt.2.2.2.2.2.1 (Nat.le_of_ble_eq_true rfl) (lv := [(0, .ref m), (1, vi (p : Int))]) rfl (fun X k => ?_)
  generalize hQQ : QM G X nx 0 0 _ = QQ
  refine g_iload_n k rfl dX10_tapeAt_0 ?_
  refine g_aload_n k rfl dX10_tapeAt_1 ?_
  refine g_get k 10 3 (C := RX10) (T := TX10) (N := 38) fl_X10_18 rfl wi_X10 (by decide) rfl hm rfl dX10_tapeAt_2 ?_
  refine g_icmp_ge k (tgt := 17) (by omega) (by omega) dX10_tapeAt_5 (by decide) (fun c5 => ?_) (fun c5 => ?_)
  · skip
    refine g_iconst k dX10_tapeAt_17 ?_
    rw [← hQQ]
    refine g_ireti k rfl dX10_tapeAt_18 ?_
    exact ⟨rfl, by rw [if_neg (by omega)]⟩
  · skip
    refine g_aload_n k rfl dX10_tapeAt_8 ?_
    refine g_get k 10 1 (C := RX10) (T := TX10) (N := 38) fl_X10_7 rfl wi_X10 (by decide) rfl hm rfl dX10_tapeAt_9 ?_
    refine g_iload_n k rfl dX10_tapeAt_12 ?_
    refine g_iald k p hT (by omega) (by omega) (by decide) dX10_tapeAt_13 ?_
    refine g_goto k (tgt := 18) dX10_tapeAt_14 (by decide) ?_
    rw [← hQQ]
    refine g_ireti k rfl dX10_tapeAt_18 ?_
    exact ⟨rfl, by rw [if_pos (by omega)]⟩

set_option maxHeartbeats 600000 in
set_option maxRecDepth 100000 in
theorem c_X10_next {G : Gx} {h : Hp} {nx : Nat} {m : Nat} {s : Nat → Int} (hm : h m = some (mo m s)) {T : Nat → Int} (hT : h (m + 1) = some (ai G 740 T)) {n nt0 : Nat} (z2 : s 2 = (n : Int)) (hn7 : n ≤ 740) (hBy : Byt T) (z3 : s 3 = (nt0 : Int)) (hnt : nt0 ≤ n) {lm : Nat} (hlm : lm = if 700 < n then 700 else n) (wd : Int) : Con G yX10_next cX10_next 1 none 2 0 0 [.ref m] h nx (PV fun h' => (∃ s2 : Nat → Int, h' m = some (mo m s2) ∧ (∀ j, (j ≠ 3 ∧ j ≠ 4 ∧ j ≠ 5 ∧ j ≠ 8) → s2 j = s j) ∧ TkR n (stF T n lm nt0 wd) s2) ∧ ∀ q : Nat, q ≠ m → h' q = h q) := by
  have hl1 : (700 < n ∧ lm = 700) ∨ (n ≤ 700 ∧ lm = n) := by rw [hlm]; split <;> omega
  have hsl := sk_lm (T := T) (n := n) (lm := lm) (nt := nt0) (by omega) hnt
  refine Con.of v_X10_next.2.2.2.2.2.1 (Nat.le_of_ble_eq_true rfl) (lv := [(0, .ref m)]) rfl (fun X k => ?_)
  generalize hQQ : QM G X nx 0 0 _ = QQ
  have fr0 : ∀ q : Nat, q ≠ m → h q = h q := fun _ _ => rfl
  have K0 : ∀ (nz : Nat) (p : Nat) (h0 : Hp) (hm_ : h0 m = some (mo m (fu s 3 (p : Int)))) (hT_ : h0 (m + 1) = some (ai G 740 T)) (fr_ : ∀ q : Nat, q ≠ m → h0 q = h q) (hp : p ≤ n) (hsk : skF T (n - p) p = skF T (n - nt0) nt0) (hmz : n - p < nz), Go G X 1 QQ 0 0 nx 0 [(0, .ref m)] [] h0 := by
    intro nz
    induction nz with
    | zero => intro p h0 hm_ hT_ fr_ hp hsk hmz; exact absurd hmz (Nat.not_lt_zero _)
    | succ nz ih0 =>
      intro p h0 hm_ hT_ fr_ hp hsk hmz
      have K52 : ∀ (a : Nat) (h52 : Hp) (hm__1 : h52 m = some (mo m (fu s 3 (a : Int)))) (hT__1 : h52 (m + 1) = some (ai G 740 T)) (fr__1 : ∀ q : Nat, q ≠ m → h52 q = h q) (ha : a = skF T (n - nt0) nt0) (ha2 : a ≤ n), Go G X 1 QQ 0 0 nx 52 [(0, .ref m)] [] h52 := by
        intro a h52 hm__1 hT__1 fr__1 ha ha2
        have hby := hBy a
        refine g_aload_n k rfl dX10_next_52 ?_
        refine g_aload_n k rfl dX10_next_53 ?_
        refine g_get k 10 4 (v := vi (a : Int)) (C := RX10) (T := TX10) (N := 38) fl_X10_21 rfl wi_X10 (by decide) rfl hm__1 rfl dX10_next_54 ?_
        refine g_put k 10 5 (C := RX10) (T := TX10) (N := 38) fl_X10_24 rfl wi_X10 tyX10 tyX10_ok nmX10 (by decide) rfl rfl rfl rfl hm__1 (Nat.le_of_ble_eq_true rfl) (fs2 := mol m (fu (fu s 3 (a : Int)) 4 (a : Int))) rfl rfl dX10_next_57 (fun h57 eh57 => ?_)
        have hm__2 : h57 m = some (mo m (fu (fu s 3 (a : Int)) 4 (a : Int))) := (congrFun eh57 _).trans hup_s
        have hT__2 : h57 (m + 1) = some (ai G 740 T) := (congrFun eh57 _).trans ((hup_n (by omega)).trans hT__1)
        have fr__2 : ∀ q : Nat, q ≠ m → h57 q = h q := fun q hq => (congrFun eh57 q).trans ((hup_n (by omega)).trans (fr__1 q hq))
        have K93 : ∀ (h93 : s 2 ≤ 700 ∨ (a : Int) < 700), Go G X 1 QQ 0 0 nx 93 [(0, .ref m)] [] h57 := by
          intro h93
          refine g_aload_n k rfl dX10_next_93 ?_
          refine g_get k 10 4 (v := vi (a : Int)) (C := RX10) (T := TX10) (N := 38) fl_X10_21 rfl wi_X10 (by decide) rfl hm__2 rfl dX10_next_94 ?_
          refine g_aload_n k rfl dX10_next_97 ?_
          refine g_get k 10 3 (v := vi (s 2)) (C := RX10) (T := TX10) (N := 38) fl_X10_18 rfl wi_X10 (by decide) rfl hm__2 rfl dX10_next_98 ?_
          refine g_icmp_lt k (tgt := 110) (by omega) (by omega) dX10_next_101 (by decide) (fun c101 => ?_) (fun c101 => ?_)
          · skip
            have eB : skF T (lm - nt0) nt0 = a := by
              by_cases e : skF T (lm - nt0) nt0 < lm
              · rw [← hsl.1 e]; exact ha.symm
              · have := hsl.2 (by omega); omega
            have hal : a < lm := by omega
            refine g_aload_n k rfl dX10_next_110 ?_
            refine g_get k 10 1 (v := .ref (m + 1)) (C := RX10) (T := TX10) (N := 38) fl_X10_7 rfl wi_X10 (by decide) rfl hm__2 rfl dX10_next_111 ?_
            refine g_aload_n k rfl dX10_next_114 ?_
            refine g_get k 10 4 (v := vi (a : Int)) (C := RX10) (T := TX10) (N := 38) fl_X10_21 rfl wi_X10 (by decide) rfl hm__2 rfl dX10_next_115 ?_
            refine g_iald k a hT__2 (by omega) (by omega) (by decide) dX10_next_118 ?_
            refine g_cSi k (As := [vi (T a)]) v_X10_isLetter ml_X10_30 (c_X10_isLetter hby) (by omega) (by omega) rfl (Nat.le_of_ble_eq_true rfl) rfl dX10_next_119 (fun r119 h119 p119 => ?_)
            obtain ⟨eh119, p119⟩ := p119
            have eh119 := eh119.symm; subst eh119
            have q119 := p119
            have q119r := q119.r
            refine g_if_ne k (tgt := 159) (by omega) dX10_next_122 (by decide) (fun c122 => ?_) (fun c122 => ?_)
            · skip
              refine g_aload_n k rfl dX10_next_159 ?_
              refine g_lconst k (z := 0) rfl dX10_next_160 ?_
              refine g_put k 10 9 (C := RX10) (T := TX10) (N := 38) fl_X10_34 rfl wi_X10 tyX10 tyX10_ok nmX10 (by decide) rfl rfl rfl rfl hm__2 (Nat.le_of_ble_eq_true rfl) (fs2 := mol m (fu (fu (fu s 3 (a : Int)) 4 (a : Int)) 8 0)) rfl rfl dX10_next_161 (fun h161 eh161 => ?_)
              have hm__3 : h161 m = some (mo m (fu (fu (fu s 3 (a : Int)) 4 (a : Int)) 8 0)) := (congrFun eh161 _).trans hup_s
              have hT__3 : h161 (m + 1) = some (ai G 740 T) := (congrFun eh161 _).trans ((hup_n (by omega)).trans hT__2)
              have fr__3 : ∀ q : Nat, q ≠ m → h161 q = h q := fun q hq => (congrFun eh161 q).trans ((hup_n (by omega)).trans (fr__2 q hq))
              have K164 : ∀ (nz_3 : Nat) (c : Nat) (h164 : Hp) (hm__4 : h164 m = some (mo m (fu (fu (fu s 3 ((a + c : Nat) : Int)) 4 (a : Int)) 8 (wd7 T a (if c ≤ 7 then c else 7))))) (hT__4 : h164 (m + 1) = some (ai G 740 T)) (fr__4 : ∀ q : Nat, q ≠ m → h164 q = h q) (hc : a + c ≤ n) (hlt : Lts T a c) (hle : leF T (n - (a + c)) (a + c) = leF T (n - a) a) (hmz_3 : n - (a + c) < nz_3), Go G X 1 QQ 0 0 nx 164 [(0, .ref m)] [] h164 := by
                intro nz_3
                induction nz_3 with
                | zero => intro c h164 hm__4 hT__4 fr__4 hc hlt hle hmz_3; exact absurd hmz_3 (Nat.not_lt_zero _)
                | succ nz_3 ih164 =>
                  intro c h164 hm__4 hT__4 fr__4 hc hlt hle hmz_3
                  have hbc0 := hBy (a + c)
                  refine g_aload_n k rfl dX10_next_164 ?_
                  refine g_aload_n k rfl dX10_next_165 ?_
                  refine g_get k 10 4 (v := vi ((a + c : Nat) : Int)) (C := RX10) (T := TX10) (N := 38) fl_X10_21 rfl wi_X10 (by decide) rfl hm__4 rfl dX10_next_166 ?_
                  refine g_cVi k 10 (As := [vi ((a + c : Nat) : Int)]) v_X10_tapeAt rfl rfl hm__4 ml_X10_38 (c_X10_tapeAt hm__4 hT__4 (p := a + c) z2 hn7 (by omega)) (by omega) (by omega) rfl (Nat.le_of_ble_eq_true rfl) rfl dX10_next_169 (fun r169 h169 p169 => ?_)
                  obtain ⟨eh169, p169⟩ := p169
                  have eh169 := eh169.symm; subst eh169
                  subst p169
                  have hbr : 0 ≤ (if a + c < n then T (a + c) else 0) ∧ (if a + c < n then T (a + c) else 0) ≤ 255 := by split <;> omega
                  refine g_cSi k (As := [vi (if a + c < n then T (a + c) else 0)]) v_X10_isLetter ml_X10_30 (c_X10_isLetter hbr) (by omega) (by omega) rfl (Nat.le_of_ble_eq_true rfl) rfl dX10_next_172 (fun r172 h172 p172 => ?_)
                  obtain ⟨eh172, p172⟩ := p172
                  have eh172 := eh172.symm; subst eh172
                  have q172 := p172
                  have q172r := q172.r
                  refine g_if_eq k (tgt := 232) (by omega) dX10_next_175 (by decide) (fun c175 => ?_) (fun c175 => ?_)
                  · skip
                    have hend : leF T (n - a) a = a + c := by
                      rw [← hle]
                      by_cases q : a + c < n
                      · refine leF_at (fun z => ?_)
                        have := q172.f (by omega)
                        rw [if_pos q] at this
                        exact this z
                      · rw [show n - (a + c) = 0 by omega]; rfl
                    refine g_aload_n k rfl dX10_next_232 ?_
                    have K252 : ∀ (zw : Int) (hzw : zw = if c ≤ 7 then 2 else 1), Go G X 1 QQ 0 0 nx 252 [(0, .ref m)] [vi zw, .ref m] h164 := by
                      intro zw hzw
                      refine g_put k 10 6 (C := RX10) (T := TX10) (N := 38) fl_X10_27 rfl wi_X10 tyX10 tyX10_ok nmX10 (by decide) rfl rfl rfl rfl hm__4 (Nat.le_of_ble_eq_true rfl) (fs2 := mol m (fu (fu (fu (fu s 3 ((a + c : Nat) : Int)) 4 (a : Int)) 5 zw) 8 (wd7 T a (if c ≤ 7 then c else 7)))) rfl rfl dX10_next_252 (fun h252 eh252 => ?_)
                      have hm__5 : h252 m = some (mo m (fu (fu (fu (fu s 3 ((a + c : Nat) : Int)) 4 (a : Int)) 5 zw) 8 (wd7 T a (if c ≤ 7 then c else 7)))) := (congrFun eh252 _).trans hup_s
                      have hT__5 : h252 (m + 1) = some (ai G 740 T) := (congrFun eh252 _).trans ((hup_n (by omega)).trans hT__4)
                      have fr__5 : ∀ q : Nat, q ≠ m → h252 q = h q := fun q hq => (congrFun eh252 q).trans ((hup_n (by omega)).trans (fr__4 q hq))
                      rw [← hQQ]
                      refine g_retv k rfl dX10_next_255 ?_
                      rw [st_word eB hal (q119.t (by omega)), hend, show a + c - a = c by omega]
                      exact ⟨⟨_, hm__5, (fun j hj => by rw [fu_n (by omega), fu_n (by omega), fu_n (by omega), fu_n (by omega)]), (show zw = mS n (if c ≤ 7 then 1 else 3) by rw [hzw]; unfold mS; split <;> rfl), rfl, fun _ => rfl, fun q => ⟨T, a, c, by dsimp only at q; split at q <;> omega, hlt, rfl, by dsimp only at q; split at q; (rename_i g; show wd7 T a (if c ≤ 7 then c else 7) = _; rw [if_pos g]); omega⟩⟩, fr__5⟩
                    refine g_aload_n k rfl dX10_next_233 ?_
                    refine g_get k 10 4 (v := vi ((a + c : Nat) : Int)) (C := RX10) (T := TX10) (N := 38) fl_X10_21 rfl wi_X10 (by decide) rfl hm__4 rfl dX10_next_234 ?_
                    refine g_aload_n k rfl dX10_next_237 ?_
                    refine g_get k 10 5 (v := vi (a : Int)) (C := RX10) (T := TX10) (N := 38) fl_X10_24 rfl wi_X10 (by decide) rfl hm__4 rfl dX10_next_238 ?_
                    refine g_isub k dX10_next_241 ?_
                    refine g_bipush k rfl dX10_next_242 ?_
                    refine g_icmp_le k (tgt := 251) (by omega) (by omega) dX10_next_244 (by decide) (fun c244 => ?_) (fun c244 => ?_)
                    · skip
                      refine g_iconst k dX10_next_251 ?_
                      exact K252 _ (by rw [if_pos (by omega)])
                    · skip
                      refine g_iconst k dX10_next_247 ?_
                      refine g_goto k (tgt := 252) dX10_next_248 (by decide) ?_
                      exact K252 _ (by rw [if_neg (by omega)])
                  · skip
                    have hcn : a + c < n := by
                      refine Classical.byContradiction (fun q => ?_)
                      have := q172.t (by omega)
                      rw [if_neg (by omega)] at this
                      unfold isLt at this
                      omega
                    have hcl2 : isLt (T (a + c)) := by have := q172.t (by omega); rw [if_pos hcn] at this; exact this
                    have hbc := hBy (a + c)
                    refine g_aload_n k rfl dX10_next_178 ?_
                    refine g_get k 10 4 (v := vi ((a + c : Nat) : Int)) (C := RX10) (T := TX10) (N := 38) fl_X10_21 rfl wi_X10 (by decide) rfl hm__4 rfl dX10_next_179 ?_
                    refine g_aload_n k rfl dX10_next_182 ?_
                    refine g_get k 10 5 (v := vi (a : Int)) (C := RX10) (T := TX10) (N := 38) fl_X10_24 rfl wi_X10 (by decide) rfl hm__4 rfl dX10_next_183 ?_
                    refine g_isub k dX10_next_186 ?_
                    refine g_bipush k rfl dX10_next_187 ?_
                    refine g_icmp_ge k (tgt := 219) (by omega) (by omega) dX10_next_189 (by decide) (fun c189 => ?_) (fun c189 => ?_)
                    · skip
                      refine g_aload_n k rfl dX10_next_219 ?_
                      refine g_dup k rfl dX10_next_220 ?_
                      refine g_get k 10 4 (v := vi ((a + c : Nat) : Int)) (C := RX10) (T := TX10) (N := 38) fl_X10_21 rfl wi_X10 (by decide) rfl hm__4 rfl dX10_next_221 ?_
                      refine g_iconst k dX10_next_224 ?_
                      refine g_iadd k dX10_next_225 ?_
                      refine g_put k 10 4 (C := RX10) (T := TX10) (N := 38) fl_X10_21 rfl wi_X10 tyX10 tyX10_ok nmX10 (by decide) rfl rfl rfl rfl hm__4 (Nat.le_of_ble_eq_true rfl) (fs2 := mol m (fu (fu (fu s 3 (((a + c : Nat) : Int) + 1)) 4 (a : Int)) 8 (wd7 T a (if c ≤ 7 then c else 7)))) rfl rfl dX10_next_226 (fun h226 eh226 => ?_)
                      have hm__6 : h226 m = some (mo m (fu (fu (fu s 3 (((a + c : Nat) : Int) + 1)) 4 (a : Int)) 8 (wd7 T a (if c ≤ 7 then c else 7)))) := (congrFun eh226 _).trans hup_s
                      have hT__6 : h226 (m + 1) = some (ai G 740 T) := (congrFun eh226 _).trans ((hup_n (by omega)).trans hT__4)
                      have fr__6 : ∀ q : Nat, q ≠ m → h226 q = h q := fun q hq => (congrFun eh226 q).trans ((hup_n (by omega)).trans (fr__4 q hq))
                      refine g_goto k (tgt := 164) dX10_next_229 (by decide) ?_
                      have hcl := q172.t (by omega)
                      rw [show (if c ≤ 7 then c else 7) = (if c + 1 ≤ 7 then c + 1 else 7) by (repeat' split) <;> omega] at hm__6
                      exact ih164 (c + 1) h226 hm__6 hT__6 fr__6 (by omega) (fun j h1 h2 => by by_cases e : j = a + c; (rw [e]; exact hcl2); exact hlt j h1 (by omega)) (by rw [← hle, show n - (a + c) = n - (a + (c + 1)) + 1 by omega, leF_y hcl2]; rfl) (by omega)
                    · skip
                      refine g_aload_n k rfl dX10_next_192 ?_
                      refine g_ldc2 k (z := 27) cn_X10_42 rfl dX10_next_193 ?_
                      refine g_aload_n k rfl dX10_next_196 ?_
                      refine g_get k 10 9 (v := vl (wd7 T a (if c ≤ 7 then c else 7))) (C := RX10) (T := TX10) (N := 38) fl_X10_34 rfl wi_X10 (by decide) rfl hm__4 rfl dX10_next_197 ?_
                      refine g_lmul k dX10_next_200 ?_
                      refine g_aload_n k rfl dX10_next_201 ?_
                      refine g_get k 10 1 (v := .ref (m + 1)) (C := RX10) (T := TX10) (N := 38) fl_X10_7 rfl wi_X10 (by decide) rfl hm__4 rfl dX10_next_202 ?_
                      refine g_aload_n k rfl dX10_next_205 ?_
                      refine g_get k 10 4 (v := vi ((a + c : Nat) : Int)) (C := RX10) (T := TX10) (N := 38) fl_X10_21 rfl wi_X10 (by decide) rfl hm__4 rfl dX10_next_206 ?_
                      refine g_iald k (a + c) hT__4 (by omega) (by omega) (by decide) dX10_next_209 ?_
                      refine g_i2l k (by omega) dX10_next_210 ?_
                      refine g_ladd k dX10_next_211 ?_
                      refine g_ldc2 k (z := 96) cn_X10_44 rfl dX10_next_212 ?_
                      refine g_lsub k dX10_next_215 ?_
                      refine g_put k 10 9 (C := RX10) (T := TX10) (N := 38) fl_X10_34 rfl wi_X10 tyX10 tyX10_ok nmX10 (by decide) rfl rfl rfl rfl hm__4 (Nat.le_of_ble_eq_true rfl) (fs2 := mol m (fu (fu (fu s 3 ((a + c : Nat) : Int)) 4 (a : Int)) 8 (((27 * (wd7 T a (if c ≤ 7 then c else 7))) + (T (a + c))) - 96))) rfl rfl dX10_next_216 (fun h216 eh216 => ?_)
                      have hm__7 : h216 m = some (mo m (fu (fu (fu s 3 ((a + c : Nat) : Int)) 4 (a : Int)) 8 (((27 * (wd7 T a (if c ≤ 7 then c else 7))) + (T (a + c))) - 96))) := (congrFun eh216 _).trans hup_s
                      have hT__7 : h216 (m + 1) = some (ai G 740 T) := (congrFun eh216 _).trans ((hup_n (by omega)).trans hT__4)
                      have fr__7 : ∀ q : Nat, q ≠ m → h216 q = h q := fun q hq => (congrFun eh216 q).trans ((hup_n (by omega)).trans (fr__4 q hq))
                      refine g_aload_n k rfl dX10_next_219 ?_
                      refine g_dup k rfl dX10_next_220 ?_
                      refine g_get k 10 4 (v := vi ((a + c : Nat) : Int)) (C := RX10) (T := TX10) (N := 38) fl_X10_21 rfl wi_X10 (by decide) rfl hm__7 rfl dX10_next_221 ?_
                      refine g_iconst k dX10_next_224 ?_
                      refine g_iadd k dX10_next_225 ?_
                      refine g_put k 10 4 (C := RX10) (T := TX10) (N := 38) fl_X10_21 rfl wi_X10 tyX10 tyX10_ok nmX10 (by decide) rfl rfl rfl rfl hm__7 (Nat.le_of_ble_eq_true rfl) (fs2 := mol m (fu (fu (fu s 3 (((a + c : Nat) : Int) + 1)) 4 (a : Int)) 8 (((27 * (wd7 T a (if c ≤ 7 then c else 7))) + (T (a + c))) - 96))) rfl rfl dX10_next_226 (fun h226_1 eh226_1 => ?_)
                      have hm__8 : h226_1 m = some (mo m (fu (fu (fu s 3 (((a + c : Nat) : Int) + 1)) 4 (a : Int)) 8 (((27 * (wd7 T a (if c ≤ 7 then c else 7))) + (T (a + c))) - 96))) := (congrFun eh226_1 _).trans hup_s
                      have hT__8 : h226_1 (m + 1) = some (ai G 740 T) := (congrFun eh226_1 _).trans ((hup_n (by omega)).trans hT__7)
                      have fr__8 : ∀ q : Nat, q ≠ m → h226_1 q = h q := fun q hq => (congrFun eh226_1 q).trans ((hup_n (by omega)).trans (fr__7 q hq))
                      refine g_goto k (tgt := 164) dX10_next_229 (by decide) ?_
                      rw [show 27 * wd7 T a (if c ≤ 7 then c else 7) + T (a + c) - 96 = wd7 T a (if c + 1 ≤ 7 then c + 1 else 7) by rw [if_pos (by omega), if_pos (by omega)]; rfl] at hm__8
                      exact ih164 (c + 1) h226_1 hm__8 hT__8 fr__8 (by omega) (fun j h1 h2 => by by_cases e : j = a + c; (rw [e]; exact hcl2); exact hlt j h1 (by omega)) (by rw [← hle, show n - (a + c) = n - (a + (c + 1)) + 1 by omega, leF_y hcl2]; rfl) (by omega)
              exact K164 _ 0 h161 hm__3 hT__3 fr__3 (by omega) (fun j h1 h2 => by omega) rfl (Nat.lt_succ_self _)
            · skip
              refine g_aload_n k rfl dX10_next_125 ?_
              have K145 : ∀ (zs : Int) (hzs : zs = if T a = 59 then 3 else 1), Go G X 1 QQ 0 0 nx 145 [(0, .ref m)] [vi zs, .ref m] h57 := by
                intro zs hzs
                refine g_put k 10 6 (C := RX10) (T := TX10) (N := 38) fl_X10_27 rfl wi_X10 tyX10 tyX10_ok nmX10 (by decide) rfl rfl rfl rfl hm__2 (Nat.le_of_ble_eq_true rfl) (fs2 := mol m (fu (fu (fu s 3 (a : Int)) 4 (a : Int)) 5 zs)) rfl rfl dX10_next_145 (fun h145 eh145 => ?_)
                have hm__9 : h145 m = some (mo m (fu (fu (fu s 3 (a : Int)) 4 (a : Int)) 5 zs)) := (congrFun eh145 _).trans hup_s
                have hT__9 : h145 (m + 1) = some (ai G 740 T) := (congrFun eh145 _).trans ((hup_n (by omega)).trans hT__2)
                have fr__9 : ∀ q : Nat, q ≠ m → h145 q = h q := fun q hq => (congrFun eh145 q).trans ((hup_n (by omega)).trans (fr__2 q hq))
                refine g_aload_n k rfl dX10_next_148 ?_
                refine g_dup k rfl dX10_next_149 ?_
                refine g_get k 10 4 (v := vi (a : Int)) (C := RX10) (T := TX10) (N := 38) fl_X10_21 rfl wi_X10 (by decide) rfl hm__9 rfl dX10_next_150 ?_
                refine g_iconst k dX10_next_153 ?_
                refine g_iadd k dX10_next_154 ?_
                refine g_put k 10 4 (C := RX10) (T := TX10) (N := 38) fl_X10_21 rfl wi_X10 tyX10 tyX10_ok nmX10 (by decide) rfl rfl rfl rfl hm__9 (Nat.le_of_ble_eq_true rfl) (fs2 := mol m (fu (fu (fu s 3 ((a : Int) + 1)) 4 (a : Int)) 5 zs)) rfl rfl dX10_next_155 (fun h155 eh155 => ?_)
                have hm__10 : h155 m = some (mo m (fu (fu (fu s 3 ((a : Int) + 1)) 4 (a : Int)) 5 zs)) := (congrFun eh155 _).trans hup_s
                have hT__10 : h155 (m + 1) = some (ai G 740 T) := (congrFun eh155 _).trans ((hup_n (by omega)).trans hT__9)
                have fr__10 : ∀ q : Nat, q ≠ m → h155 q = h q := fun q hq => (congrFun eh155 q).trans ((hup_n (by omega)).trans (fr__9 q hq))
                rw [← hQQ]
                refine g_retv k rfl dX10_next_158 ?_
                rw [st_sign eB hal (q119.f (by omega))]
                exact ⟨⟨_, hm__10, (fun j hj => by rw [fu_n (by omega), fu_n (by omega), fu_n (by omega)]), (show zs = mS n (if T a = 59 then 2 else 3) by rw [hzs]; unfold mS; split <;> rfl), rfl, fun _ => rfl, fun q => by dsimp only at q; split at q <;> omega⟩, fr__10⟩
              refine g_aload_n k rfl dX10_next_126 ?_
              refine g_get k 10 1 (v := .ref (m + 1)) (C := RX10) (T := TX10) (N := 38) fl_X10_7 rfl wi_X10 (by decide) rfl hm__2 rfl dX10_next_127 ?_
              refine g_aload_n k rfl dX10_next_130 ?_
              refine g_get k 10 4 (v := vi (a : Int)) (C := RX10) (T := TX10) (N := 38) fl_X10_21 rfl wi_X10 (by decide) rfl hm__2 rfl dX10_next_131 ?_
              refine g_iald k a hT__2 (by omega) (by omega) (by decide) dX10_next_134 ?_
              refine g_bipush k rfl dX10_next_135 ?_
              refine g_icmp_ne k (tgt := 144) (by omega) (by omega) dX10_next_137 (by decide) (fun c137 => ?_) (fun c137 => ?_)
              · skip
                refine g_iconst k dX10_next_144 ?_
                exact K145 _ (by rw [if_neg (by omega)])
              · skip
                refine g_iconst k dX10_next_140 ?_
                refine g_goto k (tgt := 145) dX10_next_141 (by decide) ?_
                exact K145 _ (by rw [if_pos (by omega)])
          · skip
            refine g_aload_n k rfl dX10_next_104 ?_
            refine g_iconst k dX10_next_105 ?_
            refine g_put k 10 6 (C := RX10) (T := TX10) (N := 38) fl_X10_27 rfl wi_X10 tyX10 tyX10_ok nmX10 (by decide) rfl rfl rfl rfl hm__2 (Nat.le_of_ble_eq_true rfl) (fs2 := mol m (fu (fu (fu s 3 (a : Int)) 4 (a : Int)) 5 0)) rfl rfl dX10_next_106 (fun h106 eh106 => ?_)
            have hm__11 : h106 m = some (mo m (fu (fu (fu s 3 (a : Int)) 4 (a : Int)) 5 0)) := (congrFun eh106 _).trans hup_s
            have hT__11 : h106 (m + 1) = some (ai G 740 T) := (congrFun eh106 _).trans ((hup_n (by omega)).trans hT__2)
            have fr__11 : ∀ q : Nat, q ≠ m → h106 q = h q := fun q hq => (congrFun eh106 q).trans ((hup_n (by omega)).trans (fr__2 q hq))
            rw [← hQQ]
            refine g_retv k rfl dX10_next_109 ?_
            have hB : lm ≤ skF T (lm - nt0) nt0 := Nat.not_lt.mp (fun q => by have := hsl.1 q; omega)
            rw [st_end hB]
            exact ⟨⟨_, hm__11, (fun j hj => by rw [fu_n (by omega), fu_n (by omega), fu_n (by omega)]), by unfold mS; rw [if_pos rfl, if_neg (by omega)]; rfl, (show (a : Int) = (lm : Int) by omega), fun q => absurd rfl q, fun q => absurd (show (0 : Nat) = 1 from q) (by decide)⟩, fr__11⟩
        refine g_aload_n k rfl dX10_next_60 ?_
        refine g_get k 10 3 (v := vi (s 2)) (C := RX10) (T := TX10) (N := 38) fl_X10_18 rfl wi_X10 (by decide) rfl hm__2 rfl dX10_next_61 ?_
        refine g_sipush k rfl dX10_next_64 ?_
        refine g_icmp_le k (tgt := 93) (by omega) (by omega) dX10_next_67 (by decide) (fun c67 => ?_) (fun c67 => ?_)
        · skip
          exact K93 (Or.inl (by omega))
        · skip
          refine g_aload_n k rfl dX10_next_70 ?_
          refine g_get k 10 5 (v := vi (a : Int)) (C := RX10) (T := TX10) (N := 38) fl_X10_24 rfl wi_X10 (by decide) rfl hm__2 rfl dX10_next_71 ?_
          refine g_sipush k rfl dX10_next_74 ?_
          refine g_icmp_lt k (tgt := 93) (by omega) (by omega) dX10_next_77 (by decide) (fun c77 => ?_) (fun c77 => ?_)
          · skip
            exact K93 (Or.inr (by omega))
          · skip
            refine g_aload_n k rfl dX10_next_80 ?_
            refine g_sipush k rfl dX10_next_81 ?_
            refine g_put k 10 5 (C := RX10) (T := TX10) (N := 38) fl_X10_24 rfl wi_X10 tyX10 tyX10_ok nmX10 (by decide) rfl rfl rfl rfl hm__2 (Nat.le_of_ble_eq_true rfl) (fs2 := mol m (fu (fu s 3 (a : Int)) 4 700)) rfl rfl dX10_next_84 (fun h84 eh84 => ?_)
            have hm__12 : h84 m = some (mo m (fu (fu s 3 (a : Int)) 4 700)) := (congrFun eh84 _).trans hup_s
            have hT__12 : h84 (m + 1) = some (ai G 740 T) := (congrFun eh84 _).trans ((hup_n (by omega)).trans hT__2)
            have fr__12 : ∀ q : Nat, q ≠ m → h84 q = h q := fun q hq => (congrFun eh84 q).trans ((hup_n (by omega)).trans (fr__2 q hq))
            refine g_aload_n k rfl dX10_next_87 ?_
            refine g_iconst k dX10_next_88 ?_
            refine g_put k 10 6 (C := RX10) (T := TX10) (N := 38) fl_X10_27 rfl wi_X10 tyX10 tyX10_ok nmX10 (by decide) rfl rfl rfl rfl hm__12 (Nat.le_of_ble_eq_true rfl) (fs2 := mol m (fu (fu (fu s 3 (a : Int)) 4 700) 5 1)) rfl rfl dX10_next_89 (fun h89 eh89 => ?_)
            have hm__13 : h89 m = some (mo m (fu (fu (fu s 3 (a : Int)) 4 700) 5 1)) := (congrFun eh89 _).trans hup_s
            have hT__13 : h89 (m + 1) = some (ai G 740 T) := (congrFun eh89 _).trans ((hup_n (by omega)).trans hT__12)
            have fr__13 : ∀ q : Nat, q ≠ m → h89 q = h q := fun q hq => (congrFun eh89 q).trans ((hup_n (by omega)).trans (fr__12 q hq))
            rw [← hQQ]
            refine g_retv k rfl dX10_next_92 ?_
            have hB : lm ≤ skF T (lm - nt0) nt0 := Nat.not_lt.mp (fun q => by have := hsl.1 q; omega)
            rw [st_end hB]
            exact ⟨⟨_, hm__13, (fun j hj => by rw [fu_n (by omega), fu_n (by omega), fu_n (by omega)]), by unfold mS; rw [if_pos rfl, if_pos (by omega)]; rfl, (show (700 : Int) = (lm : Int) by omega), fun q => absurd rfl q, fun q => absurd (show (0 : Nat) = 1 from q) (by decide)⟩, fr__13⟩
      refine g_aload_n k rfl dX10_next_0 ?_
      refine g_get k 10 4 (v := vi (p : Int)) (C := RX10) (T := TX10) (N := 38) fl_X10_21 rfl wi_X10 (by decide) rfl hm_ rfl dX10_next_1 ?_
      refine g_aload_n k rfl dX10_next_4 ?_
      refine g_get k 10 3 (v := vi (s 2)) (C := RX10) (T := TX10) (N := 38) fl_X10_18 rfl wi_X10 (by decide) rfl hm_ rfl dX10_next_5 ?_
      refine g_icmp_ge k (tgt := 52) (by omega) (by omega) dX10_next_8 (by decide) (fun c8 => ?_) (fun c8 => ?_)
      · skip
        exact K52 p h0 hm_ hT_ fr_ (by rw [← hsk, show n - p = 0 by omega]; rfl) hp
      · skip
        have hbp := hBy p
        refine g_aload_n k rfl dX10_next_11 ?_
        refine g_get k 10 1 (v := .ref (m + 1)) (C := RX10) (T := TX10) (N := 38) fl_X10_7 rfl wi_X10 (by decide) rfl hm_ rfl dX10_next_12 ?_
        refine g_aload_n k rfl dX10_next_15 ?_
        refine g_get k 10 4 (v := vi (p : Int)) (C := RX10) (T := TX10) (N := 38) fl_X10_21 rfl wi_X10 (by decide) rfl hm_ rfl dX10_next_16 ?_
        refine g_iald k p hT_ (by omega) (by omega) (by decide) dX10_next_19 ?_
        refine g_bipush k rfl dX10_next_20 ?_
        refine g_icmp_eq k (tgt := 39) (by omega) (by omega) dX10_next_22 (by decide) (fun c22 => ?_) (fun c22 => ?_)
        · skip
          refine g_aload_n k rfl dX10_next_39 ?_
          refine g_dup k rfl dX10_next_40 ?_
          refine g_get k 10 4 (v := vi (p : Int)) (C := RX10) (T := TX10) (N := 38) fl_X10_21 rfl wi_X10 (by decide) rfl hm_ rfl dX10_next_41 ?_
          refine g_iconst k dX10_next_44 ?_
          refine g_iadd k dX10_next_45 ?_
          refine g_put k 10 4 (C := RX10) (T := TX10) (N := 38) fl_X10_21 rfl wi_X10 tyX10 tyX10_ok nmX10 (by decide) rfl rfl rfl rfl hm_ (Nat.le_of_ble_eq_true rfl) (fs2 := mol m (fu s 3 ((p : Int) + 1))) rfl rfl dX10_next_46 (fun h46 eh46 => ?_)
          have hm__14 : h46 m = some (mo m (fu s 3 ((p : Int) + 1))) := (congrFun eh46 _).trans hup_s
          have hT__14 : h46 (m + 1) = some (ai G 740 T) := (congrFun eh46 _).trans ((hup_n (by omega)).trans hT_)
          have fr__14 : ∀ q : Nat, q ≠ m → h46 q = h q := fun q hq => (congrFun eh46 q).trans ((hup_n (by omega)).trans (fr_ q hq))
          refine g_goto k (tgt := 0) dX10_next_49 (by decide) ?_
          exact ih0 (p + 1) h46 hm__14 hT__14 fr__14 (by omega) (by rw [← hsk, show n - p = n - (p + 1) + 1 by omega, skF_y (Or.inl (by omega))]) (by omega)
        · skip
          refine g_aload_n k rfl dX10_next_25 ?_
          refine g_get k 10 1 (v := .ref (m + 1)) (C := RX10) (T := TX10) (N := 38) fl_X10_7 rfl wi_X10 (by decide) rfl hm_ rfl dX10_next_26 ?_
          refine g_aload_n k rfl dX10_next_29 ?_
          refine g_get k 10 4 (v := vi (p : Int)) (C := RX10) (T := TX10) (N := 38) fl_X10_21 rfl wi_X10 (by decide) rfl hm_ rfl dX10_next_30 ?_
          refine g_iald k p hT_ (by omega) (by omega) (by decide) dX10_next_33 ?_
          refine g_bipush k rfl dX10_next_34 ?_
          refine g_icmp_ne k (tgt := 52) (by omega) (by omega) dX10_next_36 (by decide) (fun c36 => ?_) (fun c36 => ?_)
          · skip
            exact K52 p h0 hm_ hT_ fr_ (by rw [← hsk, skF_at (by unfold isB; omega)]) hp
          · skip
            refine g_aload_n k rfl dX10_next_39 ?_
            refine g_dup k rfl dX10_next_40 ?_
            refine g_get k 10 4 (v := vi (p : Int)) (C := RX10) (T := TX10) (N := 38) fl_X10_21 rfl wi_X10 (by decide) rfl hm_ rfl dX10_next_41 ?_
            refine g_iconst k dX10_next_44 ?_
            refine g_iadd k dX10_next_45 ?_
            refine g_put k 10 4 (C := RX10) (T := TX10) (N := 38) fl_X10_21 rfl wi_X10 tyX10 tyX10_ok nmX10 (by decide) rfl rfl rfl rfl hm_ (Nat.le_of_ble_eq_true rfl) (fs2 := mol m (fu s 3 ((p : Int) + 1))) rfl rfl dX10_next_46 (fun h46_1 eh46_1 => ?_)
            have hm__15 : h46_1 m = some (mo m (fu s 3 ((p : Int) + 1))) := (congrFun eh46_1 _).trans hup_s
            have hT__15 : h46_1 (m + 1) = some (ai G 740 T) := (congrFun eh46_1 _).trans ((hup_n (by omega)).trans hT_)
            have fr__15 : ∀ q : Nat, q ≠ m → h46_1 q = h q := fun q hq => (congrFun eh46_1 q).trans ((hup_n (by omega)).trans (fr_ q hq))
            refine g_goto k (tgt := 0) dX10_next_49 (by decide) ?_
            exact ih0 (p + 1) h46_1 hm__15 hT__15 fr__15 (by omega) (by rw [← hsk, show n - p = n - (p + 1) + 1 by omega, skF_y (Or.inr (by omega))]) (by omega)
  rw [fu_same z3] at hm
  exact K0 _ nt0 h hm hT fr0 hnt rfl (Nat.lt_succ_self _)

def spF (p1 p2 p3 p4 p5 p6 : Int) : Int := if 0 < p5 then 27 * (27 * (27 * (27 * (27 * (p1 - 96) + p2 - 96) + p3 - 96) + p4 - 96) + p5 - 96) + p6 - 96 else 27 * (27 * (27 * (p1 - 96) + p2 - 96) + p3 - 96) + p4 - 96
set_option maxHeartbeats 600000 in
set_option maxRecDepth 100000 in
theorem c_X10_spelt {G : Gx} {h : Hp} {nx : Nat} {p1 p2 p3 p4 p5 p6 : Int} (rp1 : 0 ≤ p1 ∧ p1 ≤ 127) (rp2 : 0 ≤ p2 ∧ p2 ≤ 127) (rp3 : 0 ≤ p3 ∧ p3 ≤ 127) (rp4 : 0 ≤ p4 ∧ p4 ≤ 127) (rp5 : 0 ≤ p5 ∧ p5 ≤ 127) (rp6 : 0 ≤ p6 ∧ p6 ≤ 127) : Con G yX10_spelt cX10_spelt 8 (some .long) 1 0 0 [vi p1, vi p2, vi p3, vi p4, vi p5, vi p6] h nx (PL fun z h' => h' = h ∧ z = spF p1 p2 p3 p4 p5 p6) := by
  refine Con.of v_X10_spelt.2.2.2.2.1 (Nat.le_of_ble_eq_true rfl) (lv := [(0, vi p1), (1, vi p2), (2, vi p3), (3, vi p4), (4, vi p5), (5, vi p6)]) rfl (fun X k => ?_)
  generalize hQQ : QM G X nx 0 0 _ = QQ
  refine g_ldc2 k (z := 27) cn_X10_42 rfl dX10_spelt_0 ?_
  refine g_ldc2 k (z := 27) cn_X10_42 rfl dX10_spelt_3 ?_
  refine g_ldc2 k (z := 27) cn_X10_42 rfl dX10_spelt_6 ?_
  refine g_iload_n k rfl dX10_spelt_9 ?_
  refine g_i2l k (by omega) dX10_spelt_10 ?_
  refine g_ldc2 k (z := 96) cn_X10_44 rfl dX10_spelt_11 ?_
  refine g_lsub k dX10_spelt_14 ?_
  refine g_lmul k dX10_spelt_15 ?_
  refine g_iload_n k rfl dX10_spelt_16 ?_
  refine g_i2l k (by omega) dX10_spelt_17 ?_
  refine g_ladd k dX10_spelt_18 ?_
  refine g_ldc2 k (z := 96) cn_X10_44 rfl dX10_spelt_19 ?_
  refine g_lsub k dX10_spelt_22 ?_
  refine g_lmul k dX10_spelt_23 ?_
  refine g_iload_n k rfl dX10_spelt_24 ?_
  refine g_i2l k (by omega) dX10_spelt_25 ?_
  refine g_ladd k dX10_spelt_26 ?_
  refine g_ldc2 k (z := 96) cn_X10_44 rfl dX10_spelt_27 ?_
  refine g_lsub k dX10_spelt_30 ?_
  refine g_lmul k dX10_spelt_31 ?_
  refine g_iload_n k rfl dX10_spelt_32 ?_
  refine g_i2l k (by omega) dX10_spelt_33 ?_
  refine g_ladd k dX10_spelt_34 ?_
  refine g_ldc2 k (z := 96) cn_X10_44 rfl dX10_spelt_35 ?_
  refine g_lsub k dX10_spelt_38 ?_
  refine g_lstore k (lv2 := [(6, vl (((27 * (((27 * (((27 * (p1 - 96)) + p2) - 96)) + p3) - 96)) + p4) - 96)), (0, vi p1), (1, vi p2), (2, vi p3), (3, vi p4), (4, vi p5), (5, vi p6)]) (by decide) rfl dX10_spelt_39 ?_
  refine g_less (lv2 := [(0, vi p1), (1, vi p2), (2, vi p3), (3, vi p4), (4, vi p5), (5, vi p6), (6, vl (((27 * (((27 * (((27 * (p1 - 96)) + p2) - 96)) + p3) - 96)) + p4) - 96))]) ⟨rfl, rfl, rfl, rfl, rfl, rfl, rfl, trivial⟩ ?_
  refine g_iload k rfl dX10_spelt_41 ?_
  refine g_if_le k (tgt := 75) (by omega) dX10_spelt_43 (by decide) (fun c43 => ?_) (fun c43 => ?_)
  · skip
    refine g_lload k rfl dX10_spelt_75 ?_
    rw [← hQQ]
    refine g_lretl k rfl dX10_spelt_77 ?_
    first
    | exact ⟨rfl, by unfold spF; rw [if_neg (by omega)]⟩
    | exact ⟨rfl, by unfold spF; rw [if_pos (by omega)]⟩
  · skip
    refine g_ldc2 k (z := 27) cn_X10_42 rfl dX10_spelt_46 ?_
    refine g_ldc2 k (z := 27) cn_X10_42 rfl dX10_spelt_49 ?_
    refine g_lload k rfl dX10_spelt_52 ?_
    refine g_lmul k dX10_spelt_54 ?_
    refine g_iload k rfl dX10_spelt_55 ?_
    refine g_i2l k (by omega) dX10_spelt_57 ?_
    refine g_ladd k dX10_spelt_58 ?_
    refine g_ldc2 k (z := 96) cn_X10_44 rfl dX10_spelt_59 ?_
    refine g_lsub k dX10_spelt_62 ?_
    refine g_lmul k dX10_spelt_63 ?_
    refine g_iload k rfl dX10_spelt_64 ?_
    refine g_i2l k (by omega) dX10_spelt_66 ?_
    refine g_ladd k dX10_spelt_67 ?_
    refine g_ldc2 k (z := 96) cn_X10_44 rfl dX10_spelt_68 ?_
    refine g_lsub k dX10_spelt_71 ?_
    refine g_goto k (tgt := 77) dX10_spelt_72 (by decide) ?_
    rw [← hQQ]
    refine g_lretl k rfl dX10_spelt_77 ?_
    first
    | exact ⟨rfl, by unfold spF; rw [if_neg (by omega)]⟩
    | exact ⟨rfl, by unfold spF; rw [if_pos (by omega)]⟩

set_option maxHeartbeats 600000 in
set_option maxRecDepth 100000 in
theorem c_X10_isItemWord {G : Gx} {h : Hp} {nx : Nat} {m : Nat} {s : Nat → Int} (hm : h m = some (mo m s)) (hw8 : s 5 = 2 → 0 ≤ s 8 ∧ s 8 < 10460353203) (hs5 : 0 ≤ s 5 ∧ s 5 ≤ 3) : Con G yX10_isItemWord cX10_isItemWord 1 (some .boolean) 2 0 0 [.ref m] h nx (PI fun z h' => h' = h ∧ bz (s 5 = 2 ∧ s 8 = 191875) z) := by
  have l1_191875 := @lc0 (s 8) 191875
  have l2_191875 := @lcr (s 8) 191875
  refine Con.of v_X10_isItemWord.2.2.2.2.2.1 (Nat.le_of_ble_eq_true rfl) (lv := [(0, .ref m)]) rfl (fun X k => ?_)
  generalize hQQ : QM G X nx 0 0 _ = QQ
  refine g_aload_n k rfl dX10_isItemWord_0 ?_
  refine g_get k 10 6 (C := RX10) (T := TX10) (N := 38) fl_X10_27 rfl wi_X10 (by decide) rfl hm rfl dX10_isItemWord_1 ?_
  refine g_iconst k dX10_isItemWord_4 ?_
  refine g_icmp_ne k (tgt := 33) (by omega) (by omega) dX10_isItemWord_5 (by decide) (fun c5 => ?_) (fun c5 => ?_)
  · skip
    refine g_iconst k dX10_isItemWord_33 ?_
    rw [← hQQ]
    refine g_zreti k (by omega) rfl dX10_isItemWord_34 ?_
    refine ⟨rfl, ?_⟩
    first | exact bz.y ⟨by omega, by omega⟩ | exact bz.n (fun q => by omega)
  · skip
    have hw9 := hw8 (by omega)
    refine g_aload_n k rfl dX10_isItemWord_8 ?_
    refine g_get k 10 9 (C := RX10) (T := TX10) (N := 38) fl_X10_34 rfl wi_X10 (by decide) rfl hm rfl dX10_isItemWord_9 ?_
    refine g_bipush k rfl dX10_isItemWord_12 ?_
    refine g_bipush k rfl dX10_isItemWord_14 ?_
    refine g_bipush k rfl dX10_isItemWord_16 ?_
    refine g_bipush k rfl dX10_isItemWord_18 ?_
    refine g_iconst k dX10_isItemWord_20 ?_
    refine g_iconst k dX10_isItemWord_21 ?_
    refine g_cSl k (As := [vi 105, vi 116, vi 101, vi 109, vi 0, vi 0]) v_X10_spelt ml_X10_46 (c_X10_spelt (p1 := 105) (p2 := 116) (p3 := 101) (p4 := 109) (p5 := 0) (p6 := 0) (by omega) (by omega) (by omega) (by omega) (by omega) (by omega)) (by omega) (by omega) rfl (Nat.le_of_ble_eq_true rfl) rfl dX10_isItemWord_22 (fun r22 h22 p22 => ?_)
    obtain ⟨eh22, p22⟩ := p22
    have eh22 := eh22.symm; subst eh22
    rw [show spF 105 116 101 109 0 0 = 191875 from rfl] at p22
    subst p22
    refine g_lcmp k (by omega) (by omega) dX10_isItemWord_25 ?_
    refine g_if_ne k (tgt := 33) (by omega) dX10_isItemWord_26 (by decide) (fun c26 => ?_) (fun c26 => ?_)
    · skip
      refine g_iconst k dX10_isItemWord_33 ?_
      rw [← hQQ]
      refine g_zreti k (by omega) rfl dX10_isItemWord_34 ?_
      refine ⟨rfl, ?_⟩
      first | exact bz.y ⟨by omega, by omega⟩ | exact bz.n (fun q => by omega)
    · skip
      refine g_iconst k dX10_isItemWord_29 ?_
      refine g_goto k (tgt := 34) dX10_isItemWord_30 (by decide) ?_
      rw [← hQQ]
      refine g_zreti k (by omega) rfl dX10_isItemWord_34 ?_
      refine ⟨rfl, ?_⟩
      first | exact bz.y ⟨by omega, by omega⟩ | exact bz.n (fun q => by omega)

set_option maxHeartbeats 600000 in
set_option maxRecDepth 100000 in
theorem c_X10_kindWord {G : Gx} {h : Hp} {nx : Nat} {m : Nat} {s : Nat → Int} (hm : h m = some (mo m s)) (hw8 : s 5 = 2 → 0 ≤ s 8 ∧ s 8 < 10460353203) (hs5 : 0 ≤ s 5 ∧ s 5 ≤ 3) : Con G yX10_kindWord cX10_kindWord 1 (some .int) 2 0 0 [.ref m] h nx (PI fun z h' => h' = h ∧ z = (if s 5 = 2 then (if s 8 = 31484543 then 0 else if s 8 = 31735670 then 1 else -1) else -1)) := by
  have l1_31484543 := @lc0 (s 8) 31484543
  have l2_31484543 := @lcr (s 8) 31484543
  have l1_31735670 := @lc0 (s 8) 31735670
  have l2_31735670 := @lcr (s 8) 31735670
  refine Con.of v_X10_kindWord.2.2.2.2.2.1 (Nat.le_of_ble_eq_true rfl) (lv := [(0, .ref m)]) rfl (fun X k => ?_)
  generalize hQQ : QM G X nx 0 0 _ = QQ
  refine g_aload_n k rfl dX10_kindWord_0 ?_
  refine g_get k 10 6 (C := RX10) (T := TX10) (N := 38) fl_X10_27 rfl wi_X10 (by decide) rfl hm rfl dX10_kindWord_1 ?_
  refine g_iconst k dX10_kindWord_4 ?_
  refine g_icmp_eq k (tgt := 12) (by omega) (by omega) dX10_kindWord_5 (by decide) (fun c5 => ?_) (fun c5 => ?_)
  · skip
    have hw9 := hw8 (by omega)
    refine g_aload_n k rfl dX10_kindWord_12 ?_
    refine g_get k 10 9 (C := RX10) (T := TX10) (N := 38) fl_X10_34 rfl wi_X10 (by decide) rfl hm rfl dX10_kindWord_13 ?_
    refine g_bipush k rfl dX10_kindWord_16 ?_
    refine g_bipush k rfl dX10_kindWord_18 ?_
    refine g_bipush k rfl dX10_kindWord_20 ?_
    refine g_bipush k rfl dX10_kindWord_22 ?_
    refine g_bipush k rfl dX10_kindWord_24 ?_
    refine g_bipush k rfl dX10_kindWord_26 ?_
    refine g_cSl k (As := [vi 98, vi 101, vi 102, vi 111, vi 114, vi 101]) v_X10_spelt ml_X10_46 (c_X10_spelt (p1 := 98) (p2 := 101) (p3 := 102) (p4 := 111) (p5 := 114) (p6 := 101) (by omega) (by omega) (by omega) (by omega) (by omega) (by omega)) (by omega) (by omega) rfl (Nat.le_of_ble_eq_true rfl) rfl dX10_kindWord_28 (fun r28 h28 p28 => ?_)
    obtain ⟨eh28, p28⟩ := p28
    have eh28 := eh28.symm; subst eh28
    rw [show spF 98 101 102 111 114 101 = 31484543 from rfl] at p28
    subst p28
    refine g_lcmp k (by omega) (by omega) dX10_kindWord_31 ?_
    refine g_if_ne k (tgt := 39) (by omega) dX10_kindWord_32 (by decide) (fun c32 => ?_) (fun c32 => ?_)
    · skip
      refine g_aload_n k rfl dX10_kindWord_39 ?_
      refine g_get k 10 9 (C := RX10) (T := TX10) (N := 38) fl_X10_34 rfl wi_X10 (by decide) rfl hm rfl dX10_kindWord_40 ?_
      refine g_bipush k rfl dX10_kindWord_43 ?_
      refine g_bipush k rfl dX10_kindWord_45 ?_
      refine g_bipush k rfl dX10_kindWord_47 ?_
      refine g_bipush k rfl dX10_kindWord_49 ?_
      refine g_bipush k rfl dX10_kindWord_51 ?_
      refine g_bipush k rfl dX10_kindWord_53 ?_
      refine g_cSl k (As := [vi 98, vi 101, vi 115, vi 105, vi 100, vi 101]) v_X10_spelt ml_X10_46 (c_X10_spelt (p1 := 98) (p2 := 101) (p3 := 115) (p4 := 105) (p5 := 100) (p6 := 101) (by omega) (by omega) (by omega) (by omega) (by omega) (by omega)) (by omega) (by omega) rfl (Nat.le_of_ble_eq_true rfl) rfl dX10_kindWord_55 (fun r55 h55 p55 => ?_)
      obtain ⟨eh55, p55⟩ := p55
      have eh55 := eh55.symm; subst eh55
      rw [show spF 98 101 115 105 100 101 = 31735670 from rfl] at p55
      subst p55
      refine g_lcmp k (by omega) (by omega) dX10_kindWord_58 ?_
      refine g_if_ne k (tgt := 66) (by omega) dX10_kindWord_59 (by decide) (fun c59 => ?_) (fun c59 => ?_)
      · skip
        refine g_iconst k dX10_kindWord_66 ?_
        rw [← hQQ]
        refine g_ireti k rfl dX10_kindWord_67 ?_
        refine ⟨rfl, ?_⟩
        (repeat' split) <;> omega
      · skip
        refine g_iconst k dX10_kindWord_62 ?_
        refine g_goto k (tgt := 67) dX10_kindWord_63 (by decide) ?_
        rw [← hQQ]
        refine g_ireti k rfl dX10_kindWord_67 ?_
        refine ⟨rfl, ?_⟩
        (repeat' split) <;> omega
    · skip
      refine g_iconst k dX10_kindWord_35 ?_
      refine g_goto k (tgt := 67) dX10_kindWord_36 (by decide) ?_
      rw [← hQQ]
      refine g_ireti k rfl dX10_kindWord_67 ?_
      refine ⟨rfl, ?_⟩
      (repeat' split) <;> omega
  · skip
    refine g_iconst k dX10_kindWord_8 ?_
    refine g_goto k (tgt := 67) dX10_kindWord_9 (by decide) ?_
    rw [← hQQ]
    refine g_ireti k rfl dX10_kindWord_67 ?_
    refine ⟨rfl, ?_⟩
    (repeat' split) <;> omega

set_option maxHeartbeats 600000 in
set_option maxRecDepth 100000 in
theorem c_X10_isName {G : Gx} {h : Hp} {nx : Nat} {m : Nat} {s : Nat → Int} (hm : h m = some (mo m s)) (hw8 : s 5 = 2 → 0 ≤ s 8 ∧ s 8 < 10460353203) (hs5 : 0 ≤ s 5 ∧ s 5 ≤ 3) : Con G yX10_isName cX10_isName 1 (some .boolean) 3 0 0 [.ref m] h nx (PI fun z h' => h' = h ∧ bz (s 5 = 2 ∧ s 8 ≠ 191875 ∧ s 8 ≠ 31484543 ∧ s 8 ≠ 31735670) z) := by
  refine Con.of v_X10_isName.2.2.2.2.2.1 (Nat.le_of_ble_eq_true rfl) (lv := [(0, .ref m)]) rfl (fun X k => ?_)
  generalize hQQ : QM G X nx 0 0 _ = QQ
  refine g_aload_n k rfl dX10_isName_0 ?_
  refine g_get k 10 6 (C := RX10) (T := TX10) (N := 38) fl_X10_27 rfl wi_X10 (by decide) rfl hm rfl dX10_isName_1 ?_
  refine g_iconst k dX10_isName_4 ?_
  refine g_icmp_ne k (tgt := 27) (by omega) (by omega) dX10_isName_5 (by decide) (fun c5 => ?_) (fun c5 => ?_)
  · skip
    refine g_iconst k dX10_isName_27 ?_
    rw [← hQQ]
    refine g_zreti k (by omega) rfl dX10_isName_28 ?_
    exact ⟨rfl, bz.n (fun q => by omega)⟩
  · skip
    refine g_aload_n k rfl dX10_isName_8 ?_
    refine g_cVi k 10 (As := []) v_X10_isItemWord rfl rfl hm ml_X10_50 (c_X10_isItemWord hm hw8 hs5) (by omega) (by omega) rfl (Nat.le_of_ble_eq_true rfl) rfl dX10_isName_9 (fun r9 h9 p9 => ?_)
    obtain ⟨eh9, p9⟩ := p9
    have eh9 := eh9.symm; subst eh9
    have q9 := p9
    have q9r := q9.r
    refine g_if_ne k (tgt := 27) (by omega) dX10_isName_12 (by decide) (fun c12 => ?_) (fun c12 => ?_)
    · skip
      refine g_iconst k dX10_isName_27 ?_
      rw [← hQQ]
      refine g_zreti k (by omega) rfl dX10_isName_28 ?_
      exact ⟨rfl, bz.n (fun q => by have := q9.t (by omega); omega)⟩
    · skip
      refine g_aload_n k rfl dX10_isName_15 ?_
      refine g_cVi k 10 (As := []) v_X10_kindWord rfl rfl hm ml_X10_54 (c_X10_kindWord hm hw8 hs5) (by omega) (by omega) rfl (Nat.le_of_ble_eq_true rfl) rfl dX10_isName_16 (fun r16 h16 p16 => ?_)
      obtain ⟨eh16, p16⟩ := p16
      have eh16 := eh16.symm; subst eh16
      subst p16
      have hkr : -1 ≤ (if s 5 = 2 then (if s 8 = 31484543 then 0 else if s 8 = 31735670 then 1 else -1) else -1) ∧ (if s 5 = 2 then (if s 8 = 31484543 then 0 else if s 8 = 31735670 then 1 else -1) else -1) ≤ 1 := by (repeat' split) <;> omega
      refine g_iconst k dX10_isName_19 ?_
      refine g_icmp_ne k (tgt := 27) (by omega) (by omega) dX10_isName_20 (by decide) (fun c20 => ?_) (fun c20 => ?_)
      · skip
        refine g_iconst k dX10_isName_27 ?_
        rw [← hQQ]
        refine g_zreti k (by omega) rfl dX10_isName_28 ?_
        exact ⟨rfl, bz.n (fun q => c20 (by rw [if_pos q.1, if_neg q.2.2.1, if_neg q.2.2.2]))⟩
      · skip
        refine g_iconst k dX10_isName_23 ?_
        refine g_goto k (tgt := 28) dX10_isName_24 (by decide) ?_
        rw [← hQQ]
        refine g_zreti k (by omega) rfl dX10_isName_28 ?_
        have g9 := q9.f (by omega)
        exact ⟨rfl, bz.y ⟨by omega, by omega, fun e => by rw [if_pos (by omega), if_pos e] at c20; omega, fun e => by rw [if_pos (by omega)] at c20; by_cases e2 : s 8 = 31484543; (rw [if_pos e2] at c20; omega); (rw [if_neg e2, if_pos e] at c20; omega)⟩⟩

set_option maxHeartbeats 600000 in
set_option maxRecDepth 100000 in
theorem c_X10_badAt {G : Gx} {h : Hp} {nx : Nat} {m : Nat} {s : Nat → Int} (hm : h m = some (mo m s)) {p p2 : Int} : Con G yX10_badAt cX10_badAt 3 (some .boolean) 1 0 0 [.ref m, vi p, vi p2] h nx (PI fun z h' => z = 0 ∧ h' m = some (mo m (fu (fu s 6 p) 7 p2)) ∧ ∀ q : Nat, q ≠ m → h' q = h q) := by
  refine Con.of v_X10_badAt.2.2.2.2.2.1 (Nat.le_of_ble_eq_true rfl) (lv := [(0, .ref m), (1, vi p), (2, vi p2)]) rfl (fun X k => ?_)
  generalize hQQ : QM G X nx 0 0 _ = QQ
  have fr0 : ∀ q : Nat, q ≠ m → h q = h q := fun _ _ => rfl
  refine g_aload_n k rfl dX10_badAt_0 ?_
  refine g_iload_n k rfl dX10_badAt_1 ?_
  refine g_put k 10 7 (C := RX10) (T := TX10) (N := 38) fl_X10_58 rfl wi_X10 tyX10 tyX10_ok nmX10 (by decide) rfl rfl rfl rfl hm (Nat.le_of_ble_eq_true rfl) (fs2 := mol m (fu s 6 p)) rfl rfl dX10_badAt_2 (fun h2 eh2 => ?_)
  have hm_ : h2 m = some (mo m (fu s 6 p)) := (congrFun eh2 _).trans hup_s
  have fr_ : ∀ q : Nat, q ≠ m → h2 q = h q := fun q hq => (congrFun eh2 q).trans ((hup_n (by omega)).trans (fr0 q hq))
  refine g_aload_n k rfl dX10_badAt_5 ?_
  refine g_iload_n k rfl dX10_badAt_6 ?_
  refine g_put k 10 8 (C := RX10) (T := TX10) (N := 38) fl_X10_61 rfl wi_X10 tyX10 tyX10_ok nmX10 (by decide) rfl rfl rfl rfl hm_ (Nat.le_of_ble_eq_true rfl) (fs2 := mol m (fu (fu s 6 p) 7 p2)) rfl rfl dX10_badAt_7 (fun h7 eh7 => ?_)
  have hm__1 : h7 m = some (mo m (fu (fu s 6 p) 7 p2)) := (congrFun eh7 _).trans hup_s
  have fr__1 : ∀ q : Nat, q ≠ m → h7 q = h q := fun q hq => (congrFun eh7 q).trans ((hup_n (by omega)).trans (fr_ q hq))
  refine g_iconst k dX10_badAt_10 ?_
  rw [← hQQ]
  refine g_zreti k (Or.inl rfl) rfl dX10_badAt_11 ?_
  exact ⟨rfl, hm__1, fr__1⟩

set_option maxHeartbeats 600000 in
set_option maxRecDepth 100000 in
theorem c_X10_bad {G : Gx} {h : Hp} {nx : Nat} {m : Nat} {s : Nat → Int} (hm : h m = some (mo m s)) (hs5 : 0 ≤ s 5 ∧ s 5 ≤ 3) {p : Int} : Con G yX10_bad cX10_bad 2 (some .boolean) 2 0 0 [.ref m, vi p] h nx (PI fun z h' => z = 0 ∧ h' m = some (mo m (fu (fu s 6 (if s 5 = 1 then 1 else p)) 7 (s 4))) ∧ ∀ q : Nat, q ≠ m → h' q = h q) := by
  refine Con.of v_X10_bad.2.2.2.2.2.1 (Nat.le_of_ble_eq_true rfl) (lv := [(0, .ref m), (1, vi p)]) rfl (fun X k => ?_)
  generalize hQQ : QM G X nx 0 0 _ = QQ
  have fr0 : ∀ q : Nat, q ≠ m → h q = h q := fun _ _ => rfl
  refine g_aload_n k rfl dX10_bad_0 ?_
  have K14 : ∀ (zf : Int) (hzf : zf = if s 5 = 1 then 1 else p), Go G X 2 QQ 0 0 nx 14 [(0, .ref m), (1, vi p)] [vi zf, .ref m] h := by
    intro zf hzf
    refine g_aload_n k rfl dX10_bad_14 ?_
    refine g_get k 10 5 (C := RX10) (T := TX10) (N := 38) fl_X10_24 rfl wi_X10 (by decide) rfl hm rfl dX10_bad_15 ?_
    refine g_cVi k 10 (As := [vi zf, vi (s 4)]) v_X10_badAt rfl rfl hm ml_X10_64 (c_X10_badAt hm (p := zf) (p2 := s 4)) (by omega) (by omega) rfl (Nat.le_of_ble_eq_true rfl) rfl dX10_bad_18 (fun r18 h18 p18 => ?_)
    obtain ⟨p18e, nm, nfr⟩ := p18
    subst p18e
    have hm_ : h18 m = some (mo m (fu (fu s 6 zf) 7 (s 4))) := nm
    have fr_ : ∀ q : Nat, q ≠ m → h18 q = h q := fun q hq => (nfr q (by omega)).trans (fr0 q hq)
    rw [← hQQ]
    refine g_zreti k (Or.inl rfl) rfl dX10_bad_21 ?_
    rw [← hzf]
    exact ⟨rfl, hm_, fr_⟩
  refine g_aload_n k rfl dX10_bad_1 ?_
  refine g_get k 10 6 (C := RX10) (T := TX10) (N := 38) fl_X10_27 rfl wi_X10 (by decide) rfl hm rfl dX10_bad_2 ?_
  refine g_iconst k dX10_bad_5 ?_
  refine g_icmp_ne k (tgt := 13) (by omega) (by omega) dX10_bad_6 (by decide) (fun c6 => ?_) (fun c6 => ?_)
  · skip
    refine g_iload_n k rfl dX10_bad_13 ?_
    exact K14 _ (by rw [if_neg (by omega)])
  · skip
    refine g_iconst k dX10_bad_9 ?_
    refine g_goto k (tgt := 14) dX10_bad_10 (by decide) ?_
    exact K14 _ (by rw [if_pos (by omega)])

set_option maxHeartbeats 600000 in
set_option maxRecDepth 100000 in
theorem c_X10_named {G : Gx} {h : Hp} {nx : Nat} {m : Nat} {s : Nat → Int} (hm : h m = some (mo m s)) {Nr : Nat → Int} (hr : h (m + 3) = some (ai G 86 Nr)) {it : Nat} (hN0 : Nr 0 = (it : Int)) (h8 : it ≤ 8) {N9 : Nat → Int} (h9 : h (m + 9) = some (al G 8 N9)) (hw : 0 ≤ s 8 ∧ s 8 < 10460353203) (hN9 : ∀ i, i < it → 0 ≤ N9 i ∧ N9 i < 10460353203) : Con G yX10_named cX10_named 2 (some .int) 1 0 0 [.ref m] h nx (PI fun z h' => h' = h ∧ z = sr (fun i => N9 i = s 8) it) := by
  refine Con.of v_X10_named.2.2.2.2.2.1 (Nat.le_of_ble_eq_true rfl) (lv := [(0, .ref m)]) rfl (fun X k => ?_)
  generalize hQQ : QM G X nx 0 0 _ = QQ
  refine g_iconst k dX10_named_0 ?_
  refine g_istore_n k (lv2 := [(0, .ref m), (1, vi 0)]) (by decide) rfl rfl dX10_named_1 ?_
  have K2 : ∀ (nz : Nat) (v : Nat) (hv : v ≤ it) (hno : ∀ j, j < v → ¬ N9 j = s 8) (hmz : it - v < nz), Go G X 2 QQ 0 0 nx 2 [(0, .ref m), (1, vi (v : Int))] [] h := by
    intro nz
    induction nz with
    | zero => intro v hv hno hmz; exact absurd hmz (Nat.not_lt_zero _)
    | succ nz ih2 =>
      intro v hv hno hmz
      refine g_iload_n k rfl dX10_named_2 ?_
      refine g_aload_n k rfl dX10_named_3 ?_
      refine g_get k 10 11 (C := RX10) (T := TX10) (N := 38) fl_X10_77 rfl wi_X10 (by decide) rfl hm rfl dX10_named_4 ?_
      refine g_iconst k dX10_named_7 ?_
      refine g_iald k 0 hr (by omega) (by omega) (by decide) dX10_named_8 ?_
      rw [show Nr 0 = (it : Int) from hN0]
      refine g_icmp_ge k (tgt := 34) (by omega) (by omega) dX10_named_9 (by decide) (fun c9 => ?_) (fun c9 => ?_)
      · skip
        refine g_iconst k dX10_named_34 ?_
        rw [← hQQ]
        refine g_ireti k rfl dX10_named_35 ?_
        exact ⟨rfl, (sr_miss (P := fun i => N9 i = s 8) (fun j hj => hno j (by omega))).symm⟩
      · skip
        have hnv := hN9 v (by omega)
        have l1 := @lc0 (N9 v) (s 8)
        have l2 := @lcr (N9 v) (s 8)
        refine g_aload_n k rfl dX10_named_12 ?_
        refine g_get k 10 17 (C := RX10) (T := TX10) (N := 38) fl_X10_95 rfl wi_X10 (by decide) rfl hm rfl dX10_named_13 ?_
        refine g_iload_n k rfl dX10_named_16 ?_
        refine g_lald k v h9 (by omega) (by omega) (by decide) dX10_named_17 ?_
        refine g_aload_n k rfl dX10_named_18 ?_
        refine g_get k 10 9 (C := RX10) (T := TX10) (N := 38) fl_X10_34 rfl wi_X10 (by decide) rfl hm rfl dX10_named_19 ?_
        refine g_lcmp k (by omega) (by omega) dX10_named_22 ?_
        refine g_if_ne k (tgt := 28) (by omega) dX10_named_23 (by decide) (fun c23 => ?_) (fun c23 => ?_)
        · skip
          refine g_iinc k (lv2 := [(0, .ref m), (1, vi ((v : Int) + 1))]) rfl (by decide) rfl rfl dX10_named_28 ?_
          refine g_goto k (tgt := 2) dX10_named_31 (by decide) ?_
          exact ih2 (v + 1) (by omega) (lt_s2 hno (by omega)) (by omega)
        · skip
          refine g_iload_n k rfl dX10_named_26 ?_
          rw [← hQQ]
          refine g_ireti k rfl dX10_named_27 ?_
          exact ⟨rfl, (sr_hit (P := fun i => N9 i = s 8) (by omega) (by omega) hno).symm⟩
  exact K2 _ 0 (Nat.zero_le _) (fun j hj => absurd hj (Nat.not_lt_zero j)) (Nat.lt_succ_self _)

