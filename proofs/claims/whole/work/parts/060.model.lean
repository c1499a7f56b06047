/-! the reference: one object of 38 fields, 21 of them numbers (s), and 17 arrays behind it -/
def mol (m : Nat) (s : Nat → Int) : List Value := [vi (s 0), .ref (m + 1), vi (s 1), vi (s 2), vi (s 3), vi (s 4), vi (s 5), vi (s 6), vi (s 7), vl (s 8), .ref (m + 2), .ref (m + 3), .ref (m + 4), .ref (m + 5), .ref (m + 6), .ref (m + 7), .ref (m + 8), .ref (m + 9), .ref (m + 10), vi (s 9), .ref (m + 11), .ref (m + 12), .ref (m + 13), .ref (m + 14), vi (s 10), vi (s 11), vi (s 12), vi (s 13), vi (s 14), vi (s 15), vi (s 16), vi (s 17), .ref (m + 15), vi (s 18), vi (s 19), .ref (m + 16), .ref (m + 17), vi (s 20)]
def mo (m : Nat) (s : Nat → Int) : va_E := ob 10 (mol m s)
/-- a row of 86: items, facts, kinds, firsts, seconds -/
def Rw (N : Nat → Int) (it : Nat) (φ : Fs) : Prop := N 0 = it ∧ N 1 = φ.length ∧ ∀ i, i < φ.length → N (2 + i) = kd φ i ∧ N (30 + i) = fi φ i ∧ N (58 + i) = se φ i
theorem Rw.i {N : Nat → Int} {it : Nat} {φ : Fs} (h : Rw N it φ) : N 0 = it := h.1
theorem Rw.n {N : Nat → Int} {it : Nat} {φ : Fs} (h : Rw N it φ) : N 1 = φ.length := h.2.1
theorem Rw.k {N : Nat → Int} {it : Nat} {φ : Fs} (h : Rw N it φ) {k : Nat} (hk : k < φ.length) : N (2 + k) = kd φ k := (h.2.2 k hk).1
theorem Rw.f {N : Nat → Int} {it : Nat} {φ : Fs} (h : Rw N it φ) {k : Nat} (hk : k < φ.length) : N (30 + k) = fi φ k := (h.2.2 k hk).2.1
theorem Rw.s {N : Nat → Int} {it : Nat} {φ : Fs} (h : Rw N it φ) {k : Nat} (hk : k < φ.length) : N (58 + k) = se φ k := (h.2.2 k hk).2.2
theorem fs_app_at {φ : Fs} {q : Nat × Nat × Nat} {i : Nat} : (φ ++ [q]).getD i (0, 0, 0) = (if i < φ.length then φ.getD i (0, 0, 0) else if i = φ.length then q else (0, 0, 0)) := by
  simp only [List.getD_eq_getElem?_getD]
  by_cases h : i < φ.length
  · rw [if_pos h, List.getElem?_append_left h]
  · rw [if_neg h]
    by_cases e : i = φ.length
    · rw [if_pos e, e]; simp
    · rw [if_neg e, List.getElem?_eq_none (by simp; omega)]; rfl
theorem kd_app {φ : Fs} {q : Nat × Nat × Nat} {i : Nat} (h : i < φ.length) : kd (φ ++ [q]) i = kd φ i ∧ fi (φ ++ [q]) i = fi φ i ∧ se (φ ++ [q]) i = se φ i := by unfold kd fi se; rw [fs_app_at, if_pos h]; exact ⟨rfl, rfl, rfl⟩
theorem kd_last {φ : Fs} {q : Nat × Nat × Nat} : kd (φ ++ [q]) φ.length = q.1 ∧ fi (φ ++ [q]) φ.length = q.2.1 ∧ se (φ ++ [q]) φ.length = q.2.2 := by unfold kd fi se; rw [fs_app_at, if_neg (by omega), if_pos rfl]; exact ⟨rfl, rfl, rfl⟩
theorem Rw.add {N : Nat → Int} {it : Nat} {φ : Fs} (h : Rw N it φ) (h28 : φ.length < 28) {k x y : Nat} : Rw (fu (fu (fu (fu N (2 + φ.length) k) (30 + φ.length) x) (58 + φ.length) y) 1 ((φ.length : Int) + 1)) it (φ ++ [(k, x, y)]) := by
  refine ⟨?_, ?_, ?_⟩
  · rw [fu_n (by omega), fu_n (by omega), fu_n (by omega), fu_n (by omega)]; exact h.1
  · rw [fu_s, List.length_append]; simp
  · intro i hi
    rw [List.length_append, List.length_singleton] at hi
    by_cases e : i < φ.length
    · obtain ⟨e1, e2, e3⟩ := kd_app (q := (k, x, y)) e
      obtain ⟨g1, g2, g3⟩ := h.2.2 i e
      rw [e1, e2, e3, fu_n (by omega), fu_n (by omega), fu_n (by omega), fu_n (by omega), fu_n (by omega), fu_n (by omega), fu_n (by omega), fu_n (by omega), fu_n (by omega), fu_n (by omega), fu_n (by omega), fu_n (by omega)]
      exact ⟨g1, g2, g3⟩
    · have e4 : i = φ.length := by omega
      subst e4
      obtain ⟨e1, e2, e3⟩ := kd_last (φ := φ) (q := (k, x, y))
      rw [e1, e2, e3, fu_n (by omega), fu_n (by omega), fu_n (by omega), fu_s, fu_n (by omega), fu_n (by omega), fu_s, fu_n (by omega), fu_s]
      exact ⟨rfl, rfl, rfl⟩
theorem Rw.pop {N : Nat → Int} {it : Nat} {φ : Fs} {q : Nat × Nat × Nat} (h : Rw N it (φ ++ [q])) {z : Int} (hz : z = φ.length) : Rw (fu N 1 z) it φ := by
  refine ⟨?_, ?_, fun i hi => ?_⟩
  · rw [fu_n (by omega)]; exact h.1
  · rw [fu_s]; exact hz
  · obtain ⟨e1, e2, e3⟩ := kd_app (q := q) hi
    rw [fu_n (by omega), fu_n (by omega), fu_n (by omega), ← e1, ← e2, ← e3]
    exact h.2.2 i (by simp; omega)
theorem Rw.ext {N N2 : Nat → Int} {it : Nat} {φ : Fs} (h : Rw N it φ) (h28 : φ.length ≤ 28) (he : ∀ j, j < 86 → N2 j = N j) : Rw N2 it φ := by
  refine ⟨by rw [he _ (by omega)]; exact h.1, by rw [he _ (by omega)]; exact h.2.1, fun i hi => ?_⟩
  rw [he _ (by omega), he _ (by omega), he _ (by omega)]
  exact h.2.2 i hi
def aI (G : Gx) (n : Nat) (e : Option va_E) : Prop := ∃ N : Nat → Int, e = some (ai G n N)
def aN (G : Gx) (it : Nat) (φ : Fs) (e : Option va_E) : Prop := ∃ N : Nat → Int, e = some (ai G 86 N) ∧ Rw N it φ
def aK (G : Gx) (im : Nat → Option (Nat × Fs)) (e : Option va_E) : Prop := ∃ N : Nat → Int, e = some (ai G 172 N) ∧ ∀ k, k < 2 → ∀ i ψ, im k = some (i, ψ) → Rw (fun j => N (86 * k + j)) i ψ
def aS (G : Gx) (ps : List (Nat × Fs)) (e : Option va_E) : Prop := ∃ N : Nat → Int, e = some (ai G 688 N) ∧ ∀ i, i < ps.length → Rw (fun j => N (86 * i + j)) (ps.getD i (0, [])).1 (ps.getD i (0, [])).2
def aG (G : Gx) (e : Option va_E) : Prop := ∃ N : Nat → Int, e = some (al G 8 N)
def aZ (G : Gx) (im : Nat → Option (Nat × Fs)) (e : Option va_E) : Prop := ∃ kz : Nat → Int, e = some (az G 2 kz) ∧ ∀ k, k < 2 → kz k = (if (im k).isSome then 1 else 0)
def aV (G : Gx) (V : RV) (e : Option va_E) : Prop := ∃ R : Nat → Int, e = some (ai G 8 R) ∧ ∀ i : Nat, (i : Int) + 1 < V.1 → R i = V.2.2.2.2 i
def MA (G : Gx) (h : Hp) (m : Nat) (s : Nat → Int) (it : Nat) (φ : Fs) (ps : List (Nat × Fs)) (im : Nat → Option (Nat × Fs)) (V : RV) (T : Nat → Int) : Prop := h m = some (mo m s) ∧ h (m + 1) = some (ai G 740 T) ∧ aN G it φ (h (m + 2)) ∧ aI G 86 (h (m + 3)) ∧ aK G im (h (m + 4)) ∧ aS G ps (h (m + 5)) ∧ aI G 86 (h (m + 6)) ∧ aI G 86 (h (m + 7)) ∧ aI G 86 (h (m + 8)) ∧ aG G (h (m + 9)) ∧ aZ G im (h (m + 10)) ∧ aI G 64 (h (m + 11)) ∧ aI G 72 (h (m + 12)) ∧ aI G 8 (h (m + 13)) ∧ aV G V (h (m + 14)) ∧ aI G 8 (h (m + 15)) ∧ aI G 8 (h (m + 16)) ∧ aI G 8 (h (m + 17))
def Sc (s : Nat → Int) (ps : List (Nat × Fs)) (V : RV) (n ft : Nat) : Prop := s 1 = n ∧ s 6 = ft ∧ s 9 = ps.length ∧ s 14 = V.1 - 1 ∧ s 17 = V.2.1 ∧ s 15 = V.2.2.1 ∧ s 16 = V.2.2.2.1
def MT (G : Gx) (h : Hp) (m : Nat) (th : Int) (it : Nat) (φ : Fs) (ps : List (Nat × Fs)) (im : Nat → Option (Nat × Fs)) (V : RV) (n : Nat) (T : Nat → Int) (ft : Nat) : Prop := ∃ s : Nat → Int, MA G h m s it φ ps im V T ∧ Sc s ps V n ft ∧ s 0 = th
def MS (G : Gx) (h : Hp) (m : Nat) (it : Nat) (φ : Fs) (ps : List (Nat × Fs)) (im : Nat → Option (Nat × Fs)) (V : RV) (n : Nat) (T : Nat → Int) (ft : Nat) : Prop := ∃ th : Int, MT G h m th it φ ps im V n T ft
set_option maxHeartbeats 600000 in
set_option maxRecDepth 100000 in
theorem c_X10_thrown {G : Gx} {h : Hp} {nx : Nat} {m : Nat} {s : Nat → Int} (hm : h m = some (mo m s)) : Con G yX10_thrown cX10_thrown 1 (some .int) 1 0 0 [.ref m] h nx (PI fun z h' => h' = h ∧ z = s 0) := by
  refine Con.of v_X10_thrown.2.2.2.2.2.1 (Nat.le_of_ble_eq_true rfl) (lv := [(0, .ref m)]) rfl (fun X k => ?_)
  generalize hQQ : QM G X nx 0 0 _ = QQ
  refine g_aload_n k rfl dX10_thrown_0 ?_
  refine g_get k 10 0 (C := RX10) (T := TX10) (N := 38) fl_X10_1 rfl wi_X10 (by decide) rfl hm rfl dX10_thrown_1 ?_
  rw [← hQQ]
  refine g_ireti k rfl dX10_thrown_4 ?_
  exact ⟨rfl, rfl⟩

set_option maxHeartbeats 600000 in
set_option maxRecDepth 100000 in
theorem c_X10_refuse {G : Gx} {h : Hp} {nx : Nat} {m : Nat} {s : Nat → Int} (hm : h m = some (mo m s)) : Con G yX10_refuse cX10_refuse 1 (some .int) 1 0 0 [.ref m] h nx (PI fun z h' => z = 0 ∧ h' m = some (mo m (fu s 0 1)) ∧ ∀ q : Nat, q ≠ m → h' q = h q) := by
  refine Con.of v_X10_refuse.2.2.2.2.2.1 (Nat.le_of_ble_eq_true rfl) (lv := [(0, .ref m)]) rfl (fun X k => ?_)
  generalize hQQ : QM G X nx 0 0 _ = QQ
  have fr0 : ∀ q : Nat, q ≠ m → h q = h q := fun _ _ => rfl
  refine g_aload_n k rfl dX10_refuse_0 ?_
  refine g_iconst k dX10_refuse_1 ?_
  refine g_put k 10 0 (C := RX10) (T := TX10) (N := 38) fl_X10_1 rfl wi_X10 tyX10 tyX10_ok nmX10 (by decide) rfl rfl rfl rfl hm (Nat.le_of_ble_eq_true rfl) (fs2 := mol m (fu s 0 1)) rfl rfl dX10_refuse_2 (fun h2 eh2 => ?_)
  have hm_ : h2 m = some (mo m (fu s 0 1)) := (congrFun eh2 _).trans hup_s
  have fr_ : ∀ q : Nat, q ≠ m → h2 q = h q := fun q hq => (congrFun eh2 q).trans ((hup_n (by omega)).trans (fr0 q hq))
  refine g_iconst k dX10_refuse_5 ?_
  rw [← hQQ]
  refine g_ireti k rfl dX10_refuse_6 ?_
  exact ⟨rfl, hm_, fr_⟩

set_option maxHeartbeats 600000 in
set_option maxRecDepth 100000 in
theorem c_X10_isIn {G : Gx} {h : Hp} {nx : Nat} {v p q : Int} (rv : -2147483648 ≤ v ∧ v ≤ 2147483647) (rp : -2147483648 ≤ p ∧ p ≤ 2147483647) (rq : -2147483648 ≤ q ∧ q ≤ 2147483647) : Con G yX10_isIn cX10_isIn 3 (some .boolean) 1 0 0 [vi v, vi p, vi q] h nx (PI fun z h' => h' = h ∧ bz (p ≤ v ∧ v ≤ q) z) := by
  refine Con.of v_X10_isIn.2.2.2.2.1 (Nat.le_of_ble_eq_true rfl) (lv := [(0, vi v), (1, vi p), (2, vi q)]) rfl (fun X k => ?_)
  generalize hQQ : QM G X nx 0 0 _ = QQ
  refine g_iload_n k rfl dX10_isIn_0 ?_
  refine g_iload_n k rfl dX10_isIn_1 ?_
  refine g_icmp_lt k (tgt := 14) (by omega) (by omega) dX10_isIn_2 (by decide) (fun c2 => ?_) (fun c2 => ?_)
  · skip
    refine g_iconst k dX10_isIn_14 ?_
    rw [← hQQ]
    refine g_zreti k (by omega) rfl dX10_isIn_15 ?_
    refine ⟨rfl, ?_⟩
    first | exact bz.y (by omega) | exact bz.n (by omega)
  · skip
    refine g_iload_n k rfl dX10_isIn_5 ?_
    refine g_iload_n k rfl dX10_isIn_6 ?_
    refine g_icmp_gt k (tgt := 14) (by omega) (by omega) dX10_isIn_7 (by decide) (fun c7 => ?_) (fun c7 => ?_)
    · skip
      refine g_iconst k dX10_isIn_14 ?_
      rw [← hQQ]
      refine g_zreti k (by omega) rfl dX10_isIn_15 ?_
      refine ⟨rfl, ?_⟩
      first | exact bz.y (by omega) | exact bz.n (by omega)
    · skip
      refine g_iconst k dX10_isIn_10 ?_
      refine g_goto k (tgt := 15) dX10_isIn_11 (by decide) ?_
      rw [← hQQ]
      refine g_zreti k (by omega) rfl dX10_isIn_15 ?_
      refine ⟨rfl, ?_⟩
      first | exact bz.y (by omega) | exact bz.n (by omega)

set_option maxHeartbeats 600000 in
set_option maxRecDepth 100000 in
theorem c_X10_has {G : Gx} {h : Hp} {nx : Nat} {w k1 : Nat} (hw : w < 2147483648) (hk : k1 < 31) : Con G yX10_has cX10_has 2 (some .boolean) 1 0 0 [vi (w : Int), vi (k1 : Int)] h nx (PI fun z h' => h' = h ∧ bz (bitN w k1) z) := by
  have hw2 : w / 2 ^ k1 % 2 < 2 := Nat.mod_lt _ (by decide)
  refine Con.of v_X10_has.2.2.2.2.1 (Nat.le_of_ble_eq_true rfl) (lv := [(0, vi (w : Int)), (1, vi (k1 : Int))]) rfl (fun X k => ?_)
  generalize hQQ : QM G X nx 0 0 _ = QQ
  refine g_iload_n k rfl dX10_has_0 ?_
  refine g_iload_n k rfl dX10_has_1 ?_
  refine g_ishr k (by omega) (by omega) dX10_has_2 ?_
  refine g_iconst k dX10_has_3 ?_
  refine g_iandm k 1 (by decide) (by decide) dX10_has_4 ?_
  rw [show ((w : Int) / 2 ^ ((k1 : Int)).toNat) % 2 ^ 1 = ((w / 2 ^ k1 % 2 : Nat) : Int) from ibit]
  refine g_iconst k dX10_has_5 ?_
  refine g_icmp_ne k (tgt := 13) (by omega) (by omega) dX10_has_6 (by decide) (fun c6 => ?_) (fun c6 => ?_)
  · skip
    refine g_iconst k dX10_has_13 ?_
    rw [← hQQ]
    refine g_zreti k (by omega) rfl dX10_has_14 ?_
    refine ⟨rfl, ?_⟩
    first | exact bz.y (by unfold bitN; omega) | exact bz.n (by unfold bitN; omega)
  · skip
    refine g_iconst k dX10_has_9 ?_
    refine g_goto k (tgt := 14) dX10_has_10 (by decide) ?_
    rw [← hQQ]
    refine g_zreti k (by omega) rfl dX10_has_14 ?_
    refine ⟨rfl, ?_⟩
    first | exact bz.y (by unfold bitN; omega) | exact bz.n (by unfold bitN; omega)

/-- how many bits stand, of the lowest k -/
def pcH : Nat → Nat → Nat
  | 0, _ => 0
  | k + 1, n => n % 2 + pcH k (n / 2)
theorem pcH_0 : ∀ k, pcH k 0 = 0
  | 0 => rfl
  | k + 1 => by unfold pcH; rw [show 0 / 2 = 0 from rfl, pcH_0 k]
theorem and_half (a b : Nat) : (a &&& b) / 2 = a / 2 &&& b / 2 := by
  exact Nat.shiftRight_and_distrib (i := 1)
theorem and_odd (a b : Nat) : (a &&& b) % 2 = (a % 2) * (b % 2) := by
  have h : (a &&& b) % 2 = 1 ↔ a % 2 = 1 ∧ b % 2 = 1 := Nat.and_mod_two_eq_one
  rcases Nat.mod_two_eq_zero_or_one a with e | e <;> rcases Nat.mod_two_eq_zero_or_one b with e2 | e2 <;> rw [e, e2] at h <;> rw [e, e2] <;> omega
theorem pcH_low : ∀ k n, n < 2 ^ k → 0 < n → pcH k (n &&& (n - 1)) + 1 = pcH k n ∧ n &&& (n - 1) < n
  | 0, n, h, h0 => by omega
  | k + 1, n, h, h0 => by
    rw [Nat.pow_succ] at h
    rcases (show n % 2 = 1 ∨ n % 2 = 0 by omega) with e | e
    · have e1 : n &&& (n - 1) = n - 1 := by
        have h1 := and_half n (n - 1)
        have h2 := and_odd n (n - 1)
        rw [show (n - 1) / 2 = n / 2 by omega, Nat.and_self] at h1
        rw [show (n - 1) % 2 = 0 by omega, Nat.mul_zero] at h2
        omega
      rw [e1]
      unfold pcH
      rw [show (n - 1) / 2 = n / 2 by omega]
      omega
    · have ih := pcH_low k (n / 2) (by omega) (by omega)
      have h1 := and_half n (n - 1)
      have h2 := and_odd n (n - 1)
      rw [show (n - 1) / 2 = n / 2 - 1 by omega] at h1
      rw [e, Nat.zero_mul] at h2
      unfold pcH
      rw [h1, h2]
      omega
theorem pcH_le : ∀ k n, pcH k n ≤ k
  | 0, _ => Nat.le_refl 0
  | k + 1, n => by have := pcH_le k (n / 2); unfold pcH; omega
set_option maxHeartbeats 600000 in
set_option maxRecDepth 100000 in
theorem c_X10_bits {G : Gx} {h : Hp} {nx : Nat} {w : Nat} (hw : w < 1073741824) : Con G yX10_bits cX10_bits 3 (some .int) 1 0 0 [vi (w : Int)] h nx (PI fun z h' => h' = h ∧ z = (pcH 30 w : Nat)) := by
  refine Con.of v_X10_bits.2.2.2.2.1 (Nat.le_of_ble_eq_true rfl) (lv := [(0, vi (w : Int))]) rfl (fun X k => ?_)
  generalize hQQ : QM G X nx 0 0 _ = QQ
  refine g_iconst k dX10_bits_0 ?_
  refine g_istore_n k (lv2 := [(0, vi (w : Int)), (1, vi 0)]) (by decide) rfl rfl dX10_bits_1 ?_
  refine g_iload_n k rfl dX10_bits_2 ?_
  refine g_istore_n k (lv2 := [(0, vi (w : Int)), (1, vi 0), (2, vi (w : Int))]) (by decide) rfl rfl dX10_bits_3 ?_
  have K4 : ∀ (nz : Nat) (c : Nat) (u : Nat) (hu : u ≤ w) (hc : c + pcH 30 u = pcH 30 w) (hmz : u < nz), Go G X 3 QQ 0 0 nx 4 [(0, vi (w : Int)), (1, vi (c : Int)), (2, vi (u : Int))] [] h := by
    intro nz
    induction nz with
    | zero => intro c u hu hc hmz; exact absurd hmz (Nat.not_lt_zero _)
    | succ nz ih4 =>
      intro c u hu hc hmz
      refine g_iload_n k rfl dX10_bits_4 ?_
      refine g_if_eq k (tgt := 20) (by omega) dX10_bits_5 (by decide) (fun c5 => ?_) (fun c5 => ?_)
      · skip
        refine g_iload_n k rfl dX10_bits_20 ?_
        rw [← hQQ]
        refine g_ireti k rfl dX10_bits_21 ?_
        exact ⟨rfl, by rw [show u = 0 by omega, pcH_0] at hc; omega⟩
      · skip
        refine g_iinc k (lv2 := [(0, vi (w : Int)), (1, vi ((c : Int) + 1)), (2, vi (u : Int))]) rfl (by decide) rfl rfl dX10_bits_8 ?_
        refine g_iload_n k rfl dX10_bits_11 ?_
        refine g_iload_n k rfl dX10_bits_12 ?_
        refine g_iconst k dX10_bits_13 ?_
        refine g_isub k dX10_bits_14 ?_
        rw [show (u : Int) - 1 = ((u - 1 : Nat) : Int) from (by omega)]
        refine g_iand k (a := u) (b := (u - 1)) (by omega) (by omega) dX10_bits_15 ?_
        refine g_istore_n k (lv2 := [(0, vi (w : Int)), (1, vi ((c : Int) + 1)), (2, vi ((u &&& (u - 1) : Nat) : Int))]) (by decide) rfl rfl dX10_bits_16 ?_
        refine g_goto k (tgt := 4) dX10_bits_17 (by decide) ?_
        have hlo := pcH_low 30 u (by omega) (by omega)
        have hp1 := pcH_le 30 w
        exact ih4 (c + 1) (u &&& (u - 1)) (by omega) (by omega) (by omega)
  exact K4 _ 0 w (Nat.le_refl _) (Nat.zero_add _) (Nat.lt_succ_self _)

set_option maxHeartbeats 600000 in
set_option maxRecDepth 100000 in
theorem c_X10_isLetter {G : Gx} {h : Hp} {nx : Nat} {z0 : Int} (hz : 0 ≤ z0 ∧ z0 ≤ 255) : Con G yX10_isLetter cX10_isLetter 1 (some .boolean) 1 0 0 [vi z0] h nx (PI fun z h' => h' = h ∧ bz (isLt z0) z) := by
  refine Con.of v_X10_isLetter.2.2.2.2.1 (Nat.le_of_ble_eq_true rfl) (lv := [(0, vi z0)]) rfl (fun X k => ?_)
  generalize hQQ : QM G X nx 0 0 _ = QQ
  refine g_iload_n k rfl dX10_isLetter_0 ?_
  refine g_bipush k rfl dX10_isLetter_1 ?_
  refine g_icmp_lt k (tgt := 16) (by omega) (by omega) dX10_isLetter_3 (by decide) (fun c3 => ?_) (fun c3 => ?_)
  · skip
    refine g_iconst k dX10_isLetter_16 ?_
    rw [← hQQ]
    refine g_zreti k (by omega) rfl dX10_isLetter_17 ?_
    refine ⟨rfl, ?_⟩
    first | exact bz.y (by unfold isLt; omega) | exact bz.n (by unfold isLt; omega)
  · skip
    refine g_iload_n k rfl dX10_isLetter_6 ?_
    refine g_bipush k rfl dX10_isLetter_7 ?_
    refine g_icmp_gt k (tgt := 16) (by omega) (by omega) dX10_isLetter_9 (by decide) (fun c9 => ?_) (fun c9 => ?_)
    · skip
      refine g_iconst k dX10_isLetter_16 ?_
      rw [← hQQ]
      refine g_zreti k (by omega) rfl dX10_isLetter_17 ?_
      refine ⟨rfl, ?_⟩
      first | exact bz.y (by unfold isLt; omega) | exact bz.n (by unfold isLt; omega)
    · skip
      refine g_iconst k dX10_isLetter_12 ?_
      refine g_goto k (tgt := 17) dX10_isLetter_13 (by decide) ?_
      rw [← hQQ]
      refine g_zreti k (by omega) rfl dX10_isLetter_17 ?_
      refine ⟨rfl, ?_⟩
      first | exact bz.y (by unfold isLt; omega) | exact bz.n (by unfold isLt; omega)

def cpF (A : Nat → Int) (st : Nat) (B : Nat → Int) (to v : Nat) : Nat → Int := fun j => if to ≤ j ∧ j < to + v then A (st + (j - to)) else B j
set_option maxHeartbeats 600000 in
set_option maxRecDepth 100000 in
theorem c_X10_copy {G : Gx} {h : Hp} {nx : Nat} {a b na nb st to : Nat} {A B : Nat → Int} (ha : h a = some (ai G na A)) (hb : h b = some (ai G nb B)) (hab : a ≠ b) (hna : na < 1000) (hnb : nb < 1000) (hs : st + 86 ≤ na) (ht : to + 86 ≤ nb) : Con G yX10_copy cX10_copy 5 none 1 0 0 [.ref a, vi (st : Int), .ref b, vi (to : Int)] h nx (PV fun h' => h' b = some (ai G nb (cpF A st B to 86)) ∧ ∀ q : Nat, q ≠ b → h' q = h q) := by
  have hn : na < 2147483648 := by omega
  refine Con.of v_X10_copy.2.2.2.2.1 (Nat.le_of_ble_eq_true rfl) (lv := [(0, .ref a), (1, vi (st : Int)), (2, .ref b), (3, vi (to : Int))]) rfl (fun X k => ?_)
  generalize hQQ : QM G X nx 0 0 _ = QQ
  have fr0 : ∀ q : Nat, q ≠ b → h q = h q := fun _ _ => rfl
  refine g_iconst k dX10_copy_0 ?_
  refine g_istore k (lv2 := [(0, .ref a), (1, vi (st : Int)), (2, .ref b), (3, vi (to : Int)), (4, vi 0)]) (by decide) rfl rfl dX10_copy_1 ?_
  have K3 : ∀ (nz : Nat) (v : Nat) (h3 : Hp) (ha_ : h3 a = some (ai G na A)) (hb_ : h3 b = some (ai G nb (cpF A st B to v))) (fr_ : ∀ q : Nat, q ≠ b → h3 q = h q) (hv : v ≤ 86) (hmz : 86 - v < nz), Go G X 5 QQ 0 0 nx 3 [(0, .ref a), (1, vi (st : Int)), (2, .ref b), (3, vi (to : Int)), (4, vi (v : Int))] [] h3 := by
    intro nz
    induction nz with
    | zero => intro v h3 ha_ hb_ fr_ hv hmz; exact absurd hmz (Nat.not_lt_zero _)
    | succ nz ih3 =>
      intro v h3 ha_ hb_ fr_ hv hmz
      refine g_iload k rfl dX10_copy_3 ?_
      refine g_bipush k rfl dX10_copy_5 ?_
      refine g_icmp_ge k (tgt := 28) (by omega) (by omega) dX10_copy_7 (by decide) (fun c7 => ?_) (fun c7 => ?_)
      · skip
        rw [← hQQ]
        refine g_retv k rfl dX10_copy_28 ?_
        have e : v = 86 := by omega
        subst e
        exact ⟨hb_, fr_⟩
      · skip
        refine g_aload_n k rfl dX10_copy_10 ?_
        refine g_iload_n k rfl dX10_copy_11 ?_
        refine g_iload k rfl dX10_copy_12 ?_
        refine g_iadd k dX10_copy_14 ?_
        refine g_aload_n k rfl dX10_copy_15 ?_
        refine g_iload_n k rfl dX10_copy_16 ?_
        refine g_iload k rfl dX10_copy_17 ?_
        refine g_iadd k dX10_copy_19 ?_
        have hn : na < 2147483648 := by omega
        refine g_iald k (st + v) ha_ (by omega) (by omega) hn dX10_copy_20 ?_
        have hn : nb < 2147483648 := by omega
        refine g_iast k (to + v) hb_ (by omega) (by omega) hn dX10_copy_21 (fun h21 eh21 => ?_)
        have ha__1 : h21 a = some (ai G na A) := (congrFun eh21 _).trans ((hup_n (by omega)).trans ha_)
        have hb__1 : h21 b = some (ai G nb (fu (cpF A st B to v) (to + v) (A (st + v)))) := (congrFun eh21 _).trans hup_s
        have fr__1 : ∀ q : Nat, q ≠ b → h21 q = h q := fun q hq => (congrFun eh21 q).trans ((hup_n (by omega)).trans (fr_ q hq))
        refine g_iinc k (lv2 := [(0, .ref a), (1, vi (st : Int)), (2, .ref b), (3, vi (to : Int)), (4, vi ((v : Int) + 1))]) rfl (by decide) rfl rfl dX10_copy_22 ?_
        refine g_goto k (tgt := 3) dX10_copy_25 (by decide) ?_
        rw [show fu (cpF A st B to v) (to + v) (A (st + v)) = cpF A st B to (v + 1) by funext j; unfold cpF; by_cases e : j = to + v; (subst e; rw [fu_s, if_pos (by omega)]; congr 1; omega); (rw [fu_n e]; by_cases e2 : to ≤ j ∧ j < to + v; (rw [if_pos e2, if_pos (by omega)]); rw [if_neg e2, if_neg (by omega)])] at hb__1
        exact ih3 (v + 1) h21 ha__1 hb__1 fr__1 (by omega) (by omega)
  rw [show B = cpF A st B to 0 by funext j; unfold cpF; rw [if_neg (by omega)]] at hb
  exact K3 _ 0 h ha hb fr0 (Nat.zero_le _) (Nat.lt_succ_self _)

theorem cpF_in {A B : Nat → Int} {st to j : Nat} (hj : j < 86) : cpF A st B to 86 (to + j) = A (st + j) := by unfold cpF; rw [if_pos (by omega)]; congr 1; omega
theorem cpF_out {A B : Nat → Int} {st to j : Nat} (hj : j < to ∨ to + 86 ≤ j) : cpF A st B to 86 j = B j := by unfold cpF; rw [if_neg (by omega)]
theorem Rw.cp {A B : Nat → Int} {st to it : Nat} {φ : Fs} (h : Rw (fun j => A (st + j)) it φ) (h28 : φ.length ≤ 28) : Rw (fun j => cpF A st B to 86 (to + j)) it φ := h.ext h28 (fun j hj => cpF_in hj)
theorem Rw.z {N : Nat → Int} {it : Nat} {φ : Fs} : Rw (fun j => N (0 + j)) it φ ↔ Rw N it φ := by rw [show (fun j => N (0 + j)) = N by funext j; rw [Nat.zero_add]]
set_option maxHeartbeats 600000 in
set_option maxRecDepth 100000 in
theorem c_X10_tells {G : Gx} {h : Hp} {nx : Nat} {r : Nat} {N : Nat → Int} {it : Nat} {φ : Fs} (hn : h r = some (ai G 86 N)) (hR : Rw N it φ) (hS : Sm it φ) (hl : φ.length < 28) {k1 x y : Nat} : Con G yX10_tells cX10_tells 5 none 1 0 0 [.ref r, vi (k1 : Int), vi (x : Int), vi (y : Int)] h nx (PV fun h' => aN G it (φ ++ [(k1, x, y)]) (h' r) ∧ ∀ q : Nat, q ≠ r → h' q = h q) := by
  refine Con.of v_X10_tells.2.2.2.2.1 (Nat.le_of_ble_eq_true rfl) (lv := [(0, .ref r), (1, vi (k1 : Int)), (2, vi (x : Int)), (3, vi (y : Int))]) rfl (fun X k => ?_)
  generalize hQQ : QM G X nx 0 0 _ = QQ
  have fr0 : ∀ q : Nat, q ≠ r → h q = h q := fun _ _ => rfl
  refine g_aload_n k rfl dX10_tells_0 ?_
  refine g_iconst k dX10_tells_1 ?_
  refine g_iald k 1 hn (by omega) (by omega) (by decide) dX10_tells_2 ?_
  rw [show N 1 = (φ.length : Int) from hR.n]
  refine g_istore k (lv2 := [(0, .ref r), (1, vi (k1 : Int)), (2, vi (x : Int)), (3, vi (y : Int)), (4, vi (φ.length : Int))]) (by decide) rfl rfl dX10_tells_3 ?_
  refine g_aload_n k rfl dX10_tells_5 ?_
  refine g_iconst k dX10_tells_6 ?_
  refine g_iload k rfl dX10_tells_7 ?_
  refine g_iadd k dX10_tells_9 ?_
  refine g_iload_n k rfl dX10_tells_10 ?_
  refine g_iast k (2 + φ.length) hn (by omega) (by omega) (by decide) dX10_tells_11 (fun h11 eh11 => ?_)
  have hn_ : h11 r = some (ai G 86 (fu N (2 + φ.length) (k1 : Int))) := (congrFun eh11 _).trans hup_s
  have fr_ : ∀ q : Nat, q ≠ r → h11 q = h q := fun q hq => (congrFun eh11 q).trans ((hup_n (by omega)).trans (fr0 q hq))
  refine g_aload_n k rfl dX10_tells_12 ?_
  refine g_bipush k rfl dX10_tells_13 ?_
  refine g_iload k rfl dX10_tells_15 ?_
  refine g_iadd k dX10_tells_17 ?_
  refine g_iload_n k rfl dX10_tells_18 ?_
  refine g_iast k (30 + φ.length) hn_ (by omega) (by omega) (by decide) dX10_tells_19 (fun h19 eh19 => ?_)
  have hn__1 : h19 r = some (ai G 86 (fu (fu N (2 + φ.length) (k1 : Int)) (30 + φ.length) (x : Int))) := (congrFun eh19 _).trans hup_s
  have fr__1 : ∀ q : Nat, q ≠ r → h19 q = h q := fun q hq => (congrFun eh19 q).trans ((hup_n (by omega)).trans (fr_ q hq))
  refine g_aload_n k rfl dX10_tells_20 ?_
  refine g_bipush k rfl dX10_tells_21 ?_
  refine g_iload k rfl dX10_tells_23 ?_
  refine g_iadd k dX10_tells_25 ?_
  refine g_iload_n k rfl dX10_tells_26 ?_
  refine g_iast k (58 + φ.length) hn__1 (by omega) (by omega) (by decide) dX10_tells_27 (fun h27 eh27 => ?_)
  have hn__2 : h27 r = some (ai G 86 (fu (fu (fu N (2 + φ.length) (k1 : Int)) (30 + φ.length) (x : Int)) (58 + φ.length) (y : Int))) := (congrFun eh27 _).trans hup_s
  have fr__2 : ∀ q : Nat, q ≠ r → h27 q = h q := fun q hq => (congrFun eh27 q).trans ((hup_n (by omega)).trans (fr__1 q hq))
  refine g_aload_n k rfl dX10_tells_28 ?_
  refine g_iconst k dX10_tells_29 ?_
  refine g_dup2 k rfl rfl dX10_tells_30 ?_
  refine g_iald k 1 hn__2 (by omega) (by omega) (by decide) dX10_tells_31 ?_
  rw [show (fu (fu (fu N (2 + φ.length) (k1 : Int)) (30 + φ.length) (x : Int)) (58 + φ.length) (y : Int)) 1 = (φ.length : Int) from (by rw [fu_n (by omega), fu_n (by omega), fu_n (by omega)]; exact hR.n)]
  refine g_iconst k dX10_tells_32 ?_
  refine g_iadd k dX10_tells_33 ?_
  refine g_iast k 1 hn__2 (by omega) (by omega) (by decide) dX10_tells_34 (fun h34 eh34 => ?_)
  have hn__3 : h34 r = some (ai G 86 (fu (fu (fu (fu N (2 + φ.length) (k1 : Int)) (30 + φ.length) (x : Int)) (58 + φ.length) (y : Int)) 1 ((φ.length : Int) + 1))) := (congrFun eh34 _).trans hup_s
  have fr__3 : ∀ q : Nat, q ≠ r → h34 q = h q := fun q hq => (congrFun eh34 q).trans ((hup_n (by omega)).trans (fr__2 q hq))
  rw [← hQQ]
  refine g_retv k rfl dX10_tells_35 ?_
  exact ⟨⟨_, hn__3, hR.add hl⟩, fr__3⟩

def fgI (k i j : Nat) : Nat := if k ≤ j ∧ j < i then j + 1 else j
theorem Rw.forg {N N2 : Nat → Int} {it : Nat} {φ : Fs} (h : Rw N it φ) {k i : Nat} (hk : k < φ.length) (hi : i + 1 = φ.length) (h0 : N2 0 = it) (h1 : N2 1 = (φ.length : Int) - 1) (hd : ∀ j, j < φ.length → N2 (2 + j) = kd φ (fgI k i j) ∧ N2 (30 + j) = fi φ (fgI k i j) ∧ N2 (58 + j) = se φ (fgI k i j)) : Rw N2 it (fgt φ k) := by
  have el : (fgt φ k).length = φ.length - 1 := List.length_eraseIdx_of_lt hk
  refine ⟨h0, by rw [el, h1]; omega, fun j hj => ?_⟩
  rw [el] at hj
  obtain ⟨g1, g2, g3⟩ := hd j (by omega)
  unfold kd fi se fgt
  rw [ers_at]
  rw [g1, g2, g3]
  unfold fgI
  by_cases e : j < k
  · rw [if_pos e, if_neg (by omega)]; exact ⟨rfl, rfl, rfl⟩
  · rw [if_neg e, if_pos (by omega)]; exact ⟨rfl, rfl, rfl⟩
set_option maxHeartbeats 600000 in
set_option maxRecDepth 100000 in
theorem c_X10_forgets {G : Gx} {h : Hp} {nx : Nat} {r : Nat} {N : Nat → Int} {it : Nat} {φ : Fs} (hn : h r = some (ai G 86 N)) (hR : Rw N it φ) (hS : Sm it φ) {k1 : Nat} (hk1 : k1 < φ.length) : Con G yX10_forgets cX10_forgets 3 none 1 0 0 [.ref r, vi (k1 : Int)] h nx (PV fun h' => aN G it (fgt φ k1) (h' r) ∧ ∀ q : Nat, q ≠ r → h' q = h q) := by
  obtain ⟨h8, h28, hsm⟩ := id hS
  refine Con.of v_X10_forgets.2.2.2.2.1 (Nat.le_of_ble_eq_true rfl) (lv := [(0, .ref r), (1, vi (k1 : Int))]) rfl (fun X k => ?_)
  generalize hQQ : QM G X nx 0 0 _ = QQ
  have fr0 : ∀ q : Nat, q ≠ r → h q = h q := fun _ _ => rfl
  refine g_iload_n k rfl dX10_forgets_0 ?_
  refine g_istore_n k (lv2 := [(0, .ref r), (1, vi (k1 : Int)), (2, vi (k1 : Int))]) (by decide) rfl rfl dX10_forgets_1 ?_
  have K2 : ∀ (nz : Nat) (v : Nat) (N2 : Nat → Int) (h2 : Hp) (hn_ : h2 r = some (ai G 86 N2)) (fr_ : ∀ q : Nat, q ≠ r → h2 q = h q) (hv : k1 ≤ v ∧ v < φ.length) (h0 : N2 0 = it) (h1 : N2 1 = φ.length) (hd : ∀ j, j < φ.length → N2 (2 + j) = kd φ (fgI k1 v j) ∧ N2 (30 + j) = fi φ (fgI k1 v j) ∧ N2 (58 + j) = se φ (fgI k1 v j)) (hmz : φ.length - v < nz), Go G X 3 QQ 0 0 nx 2 [(0, .ref r), (1, vi (k1 : Int)), (2, vi (v : Int))] [] h2 := by
    intro nz
    induction nz with
    | zero => intro v N2 h2 hn_ fr_ hv h0 h1 hd hmz; exact absurd hmz (Nat.not_lt_zero _)
    | succ nz ih2 =>
      intro v N2 h2 hn_ fr_ hv h0 h1 hd hmz
      refine g_iload_n k rfl dX10_forgets_2 ?_
      refine g_iconst k dX10_forgets_3 ?_
      refine g_iadd k dX10_forgets_4 ?_
      refine g_aload_n k rfl dX10_forgets_5 ?_
      refine g_iconst k dX10_forgets_6 ?_
      refine g_iald k 1 hn_ (by omega) (by omega) (by decide) dX10_forgets_7 ?_
      rw [show N2 1 = (φ.length : Int) from h1]
      refine g_icmp_ge k (tgt := 57) (by omega) (by omega) dX10_forgets_8 (by decide) (fun c8 => ?_) (fun c8 => ?_)
      · skip
        refine g_aload_n k rfl dX10_forgets_57 ?_
        refine g_iconst k dX10_forgets_58 ?_
        refine g_dup2 k rfl rfl dX10_forgets_59 ?_
        refine g_iald k 1 hn_ (by omega) (by omega) (by decide) dX10_forgets_60 ?_
        rw [show N2 1 = (φ.length : Int) from h1]
        refine g_iconst k dX10_forgets_61 ?_
        refine g_isub k dX10_forgets_62 ?_
        refine g_iast k 1 hn_ (by omega) (by omega) (by decide) dX10_forgets_63 (fun h63 eh63 => ?_)
        have hn__1 : h63 r = some (ai G 86 (fu N2 1 ((φ.length : Int) - 1))) := (congrFun eh63 _).trans hup_s
        have fr__1 : ∀ q : Nat, q ≠ r → h63 q = h q := fun q hq => (congrFun eh63 q).trans ((hup_n (by omega)).trans (fr_ q hq))
        rw [← hQQ]
        refine g_retv k rfl dX10_forgets_64 ?_
        refine ⟨⟨_, hn__1, hR.forg (i := v) hk1 (by omega) (by rw [fu_n (by omega)]; exact h0) (by rw [fu_s]) (fun j hj => ?_)⟩, fr__1⟩
        rw [fu_n (by omega), fu_n (by omega), fu_n (by omega)]
        exact hd j hj
      · skip
        have w0 := hd (v + 1) (by omega)
        rw [show fgI k1 v (v + 1) = v + 1 by unfold fgI; rw [if_neg (by omega)], show 2 + (v + 1) = 2 + v + 1 by omega, show 30 + (v + 1) = 30 + v + 1 by omega, show 58 + (v + 1) = 58 + v + 1 by omega] at w0
        obtain ⟨w1, w2, w3⟩ := w0
        refine g_aload_n k rfl dX10_forgets_11 ?_
        refine g_iconst k dX10_forgets_12 ?_
        refine g_iload_n k rfl dX10_forgets_13 ?_
        refine g_iadd k dX10_forgets_14 ?_
        refine g_aload_n k rfl dX10_forgets_15 ?_
        refine g_iconst k dX10_forgets_16 ?_
        refine g_iload_n k rfl dX10_forgets_17 ?_
        refine g_iadd k dX10_forgets_18 ?_
        refine g_iconst k dX10_forgets_19 ?_
        refine g_iadd k dX10_forgets_20 ?_
        refine g_iald k ((2 + v) + 1) hn_ (by omega) (by omega) (by decide) dX10_forgets_21 ?_
        rw [show N2 ((2 + v) + 1) = (kd φ (v + 1) : Int) from w1]
        refine g_iast k (2 + v) hn_ (by omega) (by omega) (by decide) dX10_forgets_22 (fun h22 eh22 => ?_)
        have hn__2 : h22 r = some (ai G 86 (fu N2 (2 + v) (kd φ (v + 1) : Int))) := (congrFun eh22 _).trans hup_s
        have fr__2 : ∀ q : Nat, q ≠ r → h22 q = h q := fun q hq => (congrFun eh22 q).trans ((hup_n (by omega)).trans (fr_ q hq))
        refine g_aload_n k rfl dX10_forgets_23 ?_
        refine g_bipush k rfl dX10_forgets_24 ?_
        refine g_iload_n k rfl dX10_forgets_26 ?_
        refine g_iadd k dX10_forgets_27 ?_
        refine g_aload_n k rfl dX10_forgets_28 ?_
        refine g_bipush k rfl dX10_forgets_29 ?_
        refine g_iload_n k rfl dX10_forgets_31 ?_
        refine g_iadd k dX10_forgets_32 ?_
        refine g_iconst k dX10_forgets_33 ?_
        refine g_iadd k dX10_forgets_34 ?_
        refine g_iald k ((30 + v) + 1) hn__2 (by omega) (by omega) (by decide) dX10_forgets_35 ?_
        rw [show (fu N2 (2 + v) (kd φ (v + 1) : Int)) ((30 + v) + 1) = (fi φ (v + 1) : Int) from (by rw [fu_n (by omega)]; exact w2)]
        refine g_iast k (30 + v) hn__2 (by omega) (by omega) (by decide) dX10_forgets_36 (fun h36 eh36 => ?_)
        have hn__3 : h36 r = some (ai G 86 (fu (fu N2 (2 + v) (kd φ (v + 1) : Int)) (30 + v) (fi φ (v + 1) : Int))) := (congrFun eh36 _).trans hup_s
        have fr__3 : ∀ q : Nat, q ≠ r → h36 q = h q := fun q hq => (congrFun eh36 q).trans ((hup_n (by omega)).trans (fr__2 q hq))
        refine g_aload_n k rfl dX10_forgets_37 ?_
        refine g_bipush k rfl dX10_forgets_38 ?_
        refine g_iload_n k rfl dX10_forgets_40 ?_
        refine g_iadd k dX10_forgets_41 ?_
        refine g_aload_n k rfl dX10_forgets_42 ?_
        refine g_bipush k rfl dX10_forgets_43 ?_
        refine g_iload_n k rfl dX10_forgets_45 ?_
        refine g_iadd k dX10_forgets_46 ?_
        refine g_iconst k dX10_forgets_47 ?_
        refine g_iadd k dX10_forgets_48 ?_
        refine g_iald k ((58 + v) + 1) hn__3 (by omega) (by omega) (by decide) dX10_forgets_49 ?_
        rw [show (fu (fu N2 (2 + v) (kd φ (v + 1) : Int)) (30 + v) (fi φ (v + 1) : Int)) ((58 + v) + 1) = (se φ (v + 1) : Int) from (by rw [fu_n (by omega), fu_n (by omega)]; exact w3)]
        refine g_iast k (58 + v) hn__3 (by omega) (by omega) (by decide) dX10_forgets_50 (fun h50 eh50 => ?_)
        have hn__4 : h50 r = some (ai G 86 (fu (fu (fu N2 (2 + v) (kd φ (v + 1) : Int)) (30 + v) (fi φ (v + 1) : Int)) (58 + v) (se φ (v + 1) : Int))) := (congrFun eh50 _).trans hup_s
        have fr__4 : ∀ q : Nat, q ≠ r → h50 q = h q := fun q hq => (congrFun eh50 q).trans ((hup_n (by omega)).trans (fr__3 q hq))
        refine g_iinc k (lv2 := [(0, .ref r), (1, vi (k1 : Int)), (2, vi ((v : Int) + 1))]) rfl (by decide) rfl rfl dX10_forgets_51 ?_
        refine g_goto k (tgt := 2) dX10_forgets_54 (by decide) ?_
        exact ih2 (v + 1) _ h50 hn__4 fr__4 (by omega) (by rw [fu_n (by omega), fu_n (by omega), fu_n (by omega)]; exact h0) (by rw [fu_n (by omega), fu_n (by omega), fu_n (by omega)]; exact h1) (fun j hj => by by_cases e : j = v; (subst e; rw [fu_n (by omega), fu_n (by omega), fu_s, fu_n (by omega), fu_s, fu_s, show fgI k1 (j + 1) j = j + 1 by unfold fgI; rw [if_pos (by omega)]]; exact ⟨rfl, rfl, rfl⟩); (rw [fu_n (by omega), fu_n (by omega), fu_n (by omega), fu_n (by omega), fu_n (by omega), fu_n (by omega), fu_n (by omega), fu_n (by omega), fu_n (by omega), show fgI k1 (v + 1) j = fgI k1 v j by unfold fgI; by_cases e2 : k1 ≤ j ∧ j < v; (rw [if_pos e2, if_pos (by omega)]); rw [if_neg e2, if_neg (by omega)]]; exact hd j hj)) (by omega)
  exact K2 _ k1 N h hn fr0 (by omega) hR.i hR.n (fun j hj => by unfold fgI; rw [if_neg (by omega)]; exact hR.2.2 j hj) (Nat.lt_succ_self _)

set_option maxHeartbeats 600000 in
set_option maxRecDepth 100000 in
theorem c_X10_factOf {G : Gx} {h : Hp} {nx : Nat} {r : Nat} {N : Nat → Int} {it : Nat} {φ : Fs} (hn : h r = some (ai G 86 N)) (hR : Rw N it φ) (hS : Sm it φ) {p p2 : Int} (rp : -2147483648 ≤ p ∧ p ≤ 2147483647) (rp2 : -2147483648 ≤ p2 ∧ p2 ≤ 2147483647) : Con G yX10_factOf cX10_factOf 4 (some .int) 1 0 0 [.ref r, vi p, vi p2] h nx (PI fun z h' => h' = h ∧ z = ix φ p p2) := by
  obtain ⟨h8, h28, hsm⟩ := id hS
  refine Con.of v_X10_factOf.2.2.2.2.1 (Nat.le_of_ble_eq_true rfl) (lv := [(0, .ref r), (1, vi p), (2, vi p2)]) rfl (fun X k => ?_)
  generalize hQQ : QM G X nx 0 0 _ = QQ
  refine g_iconst k dX10_factOf_0 ?_
  refine g_istore_n k (lv2 := [(0, .ref r), (1, vi p), (2, vi p2), (3, vi 0)]) (by decide) rfl rfl dX10_factOf_1 ?_
  have K2 : ∀ (nz : Nat) (v : Nat) (hv : v ≤ φ.length) (hno : ∀ j, j < v → ¬ pm φ p p2 j) (hmz : φ.length - v < nz), Go G X 4 QQ 0 0 nx 2 [(0, .ref r), (1, vi p), (2, vi p2), (3, vi (v : Int))] [] h := by
    intro nz
    induction nz with
    | zero => intro v hv hno hmz; exact absurd hmz (Nat.not_lt_zero _)
    | succ nz ih2 =>
      intro v hv hno hmz
      refine g_iload_n k rfl dX10_factOf_2 ?_
      refine g_aload_n k rfl dX10_factOf_3 ?_
      refine g_iconst k dX10_factOf_4 ?_
      refine g_iald k 1 hn (by omega) (by omega) (by decide) dX10_factOf_5 ?_
      rw [show N 1 = (φ.length : Int) from hR.n]
      refine g_icmp_ge k (tgt := 57) (by omega) (by omega) dX10_factOf_6 (by decide) (fun c6 => ?_) (fun c6 => ?_)
      · skip
        refine g_iconst k dX10_factOf_57 ?_
        rw [← hQQ]
        refine g_ireti k rfl dX10_factOf_58 ?_
        exact ⟨rfl, (sr_miss (fun j hj => hno j (by omega))).symm⟩
      · skip
        have hb := hsm v (by omega)
        refine g_aload_n k rfl dX10_factOf_9 ?_
        refine g_bipush k rfl dX10_factOf_10 ?_
        refine g_iload_n k rfl dX10_factOf_12 ?_
        refine g_iadd k dX10_factOf_13 ?_
        refine g_iald k (30 + v) hn (by omega) (by omega) (by decide) dX10_factOf_14 ?_
        rw [show N (30 + v) = (fi (φ) v : Int) from hR.f (by omega)]
        refine g_iload_n k rfl dX10_factOf_15 ?_
        refine g_icmp_ne k (tgt := 29) (by omega) (by omega) dX10_factOf_16 (by decide) (fun c16 => ?_) (fun c16 => ?_)
        · skip
          refine g_aload_n k rfl dX10_factOf_29 ?_
          refine g_bipush k rfl dX10_factOf_30 ?_
          refine g_iload_n k rfl dX10_factOf_32 ?_
          refine g_iadd k dX10_factOf_33 ?_
          refine g_iald k (30 + v) hn (by omega) (by omega) (by decide) dX10_factOf_34 ?_
          rw [show N (30 + v) = (fi (φ) v : Int) from hR.f (by omega)]
          refine g_iload_n k rfl dX10_factOf_35 ?_
          refine g_icmp_ne k (tgt := 51) (by omega) (by omega) dX10_factOf_36 (by decide) (fun c36 => ?_) (fun c36 => ?_)
          · skip
            refine g_iinc k (lv2 := [(0, .ref r), (1, vi p), (2, vi p2), (3, vi ((v : Int) + 1))]) rfl (by decide) rfl rfl dX10_factOf_51 ?_
            refine g_goto k (tgt := 2) dX10_factOf_54 (by decide) ?_
            exact ih2 (v + 1) (by omega) (lt_s2 hno (by unfold pm; omega)) (by omega)
          · skip
            refine g_aload_n k rfl dX10_factOf_39 ?_
            refine g_bipush k rfl dX10_factOf_40 ?_
            refine g_iload_n k rfl dX10_factOf_42 ?_
            refine g_iadd k dX10_factOf_43 ?_
            refine g_iald k (58 + v) hn (by omega) (by omega) (by decide) dX10_factOf_44 ?_
            rw [show N (58 + v) = (se (φ) v : Int) from hR.s (by omega)]
            refine g_iload_n k rfl dX10_factOf_45 ?_
            refine g_icmp_ne k (tgt := 51) (by omega) (by omega) dX10_factOf_46 (by decide) (fun c46 => ?_) (fun c46 => ?_)
            · skip
              refine g_iinc k (lv2 := [(0, .ref r), (1, vi p), (2, vi p2), (3, vi ((v : Int) + 1))]) rfl (by decide) rfl rfl dX10_factOf_51 ?_
              refine g_goto k (tgt := 2) dX10_factOf_54 (by decide) ?_
              exact ih2 (v + 1) (by omega) (lt_s2 hno (by unfold pm; omega)) (by omega)
            · skip
              refine g_iload_n k rfl dX10_factOf_49 ?_
              rw [← hQQ]
              refine g_ireti k rfl dX10_factOf_50 ?_
              exact ⟨rfl, (sr_hit (by omega) (by unfold pm; omega) hno).symm⟩
        · skip
          refine g_aload_n k rfl dX10_factOf_19 ?_
          refine g_bipush k rfl dX10_factOf_20 ?_
          refine g_iload_n k rfl dX10_factOf_22 ?_
          refine g_iadd k dX10_factOf_23 ?_
          refine g_iald k (58 + v) hn (by omega) (by omega) (by decide) dX10_factOf_24 ?_
          rw [show N (58 + v) = (se (φ) v : Int) from hR.s (by omega)]
          refine g_iload_n k rfl dX10_factOf_25 ?_
          refine g_icmp_eq k (tgt := 49) (by omega) (by omega) dX10_factOf_26 (by decide) (fun c26 => ?_) (fun c26 => ?_)
          · skip
            refine g_iload_n k rfl dX10_factOf_49 ?_
            rw [← hQQ]
            refine g_ireti k rfl dX10_factOf_50 ?_
            exact ⟨rfl, (sr_hit (by omega) (by unfold pm; omega) hno).symm⟩
          · skip
            refine g_aload_n k rfl dX10_factOf_29 ?_
            refine g_bipush k rfl dX10_factOf_30 ?_
            refine g_iload_n k rfl dX10_factOf_32 ?_
            refine g_iadd k dX10_factOf_33 ?_
            refine g_iald k (30 + v) hn (by omega) (by omega) (by decide) dX10_factOf_34 ?_
            rw [show N (30 + v) = (fi (φ) v : Int) from hR.f (by omega)]
            refine g_iload_n k rfl dX10_factOf_35 ?_
            refine g_icmp_ne k (tgt := 51) (by omega) (by omega) dX10_factOf_36 (by decide) (fun c36_1 => ?_) (fun c36_1 => ?_)
            · skip
              refine g_iinc k (lv2 := [(0, .ref r), (1, vi p), (2, vi p2), (3, vi ((v : Int) + 1))]) rfl (by decide) rfl rfl dX10_factOf_51 ?_
              refine g_goto k (tgt := 2) dX10_factOf_54 (by decide) ?_
              exact ih2 (v + 1) (by omega) (lt_s2 hno (by unfold pm; omega)) (by omega)
            · skip
              refine g_aload_n k rfl dX10_factOf_39 ?_
              refine g_bipush k rfl dX10_factOf_40 ?_
              refine g_iload_n k rfl dX10_factOf_42 ?_
              refine g_iadd k dX10_factOf_43 ?_
              refine g_iald k (58 + v) hn (by omega) (by omega) (by decide) dX10_factOf_44 ?_
              rw [show N (58 + v) = (se (φ) v : Int) from hR.s (by omega)]
              refine g_iload_n k rfl dX10_factOf_45 ?_
              refine g_icmp_ne k (tgt := 51) (by omega) (by omega) dX10_factOf_46 (by decide) (fun c46_1 => ?_) (fun c46_1 => ?_)
              · skip
                refine g_iinc k (lv2 := [(0, .ref r), (1, vi p), (2, vi p2), (3, vi ((v : Int) + 1))]) rfl (by decide) rfl rfl dX10_factOf_51 ?_
                refine g_goto k (tgt := 2) dX10_factOf_54 (by decide) ?_
                exact ih2 (v + 1) (by omega) (lt_s2 hno (by unfold pm; omega)) (by omega)
              · skip
                refine g_iload_n k rfl dX10_factOf_49 ?_
                rw [← hQQ]
                refine g_ireti k rfl dX10_factOf_50 ?_
                exact ⟨rfl, (sr_hit (by omega) (by unfold pm; omega) hno).symm⟩
  exact K2 _ 0 (Nat.zero_le _) (fun j hj => absurd hj (Nat.not_lt_zero j)) (Nat.lt_succ_self _)

set_option maxHeartbeats 600000 in
set_option maxRecDepth 100000 in
theorem c_X10_leads {G : Gx} {h : Hp} {nx : Nat} {r : Nat} {N : Nat → Int} {it : Nat} {φ : Fs} (hn : h r = some (ai G 86 N)) (hR : Rw N it φ) (hS : Sm it φ) {k1 : Nat} (hk1 : k1 < φ.length) {p : Int} (rp : -2147483648 ≤ p ∧ p ≤ 2147483647) : Con G yX10_leads cX10_leads 3 (some .int) 1 0 0 [.ref r, vi (k1 : Int), vi p] h nx (PI fun z h' => h' = h ∧ z = tgt φ k1 p) := by
  obtain ⟨h8, h28, hsm⟩ := id hS
  have hb := hsm k1 hk1
  refine Con.of v_X10_leads.2.2.2.2.1 (Nat.le_of_ble_eq_true rfl) (lv := [(0, .ref r), (1, vi (k1 : Int)), (2, vi p)]) rfl (fun X k => ?_)
  generalize hQQ : QM G X nx 0 0 _ = QQ
  refine g_aload_n k rfl dX10_leads_0 ?_
  refine g_bipush k rfl dX10_leads_1 ?_
  refine g_iload_n k rfl dX10_leads_3 ?_
  refine g_iadd k dX10_leads_4 ?_
  refine g_iald k (30 + k1) hn (by omega) (by omega) (by decide) dX10_leads_5 ?_
  rw [show N (30 + k1) = (fi (φ) k1 : Int) from hR.f (by omega)]
  refine g_iload_n k rfl dX10_leads_6 ?_
  refine g_icmp_ne k (tgt := 19) (by omega) (by omega) dX10_leads_7 (by decide) (fun c7 => ?_) (fun c7 => ?_)
  · skip
    refine g_aload_n k rfl dX10_leads_19 ?_
    refine g_bipush k rfl dX10_leads_20 ?_
    refine g_iload_n k rfl dX10_leads_22 ?_
    refine g_iadd k dX10_leads_23 ?_
    refine g_iald k (58 + k1) hn (by omega) (by omega) (by decide) dX10_leads_24 ?_
    rw [show N (58 + k1) = (se (φ) k1 : Int) from hR.s (by omega)]
    refine g_iload_n k rfl dX10_leads_25 ?_
    refine g_icmp_ne k (tgt := 47) (by omega) (by omega) dX10_leads_26 (by decide) (fun c26 => ?_) (fun c26 => ?_)
    · skip
      refine g_iconst k dX10_leads_47 ?_
      rw [← hQQ]
      refine g_ireti k rfl dX10_leads_48 ?_
      exact ⟨rfl, by unfold tgt; split <;> first | rfl | omega | (split <;> first | rfl | omega)⟩
    · skip
      refine g_aload_n k rfl dX10_leads_29 ?_
      refine g_iconst k dX10_leads_30 ?_
      refine g_iload_n k rfl dX10_leads_31 ?_
      refine g_iadd k dX10_leads_32 ?_
      refine g_iald k (2 + k1) hn (by omega) (by omega) (by decide) dX10_leads_33 ?_
      rw [show N (2 + k1) = (kd (φ) k1 : Int) from hR.k (by omega)]
      refine g_iconst k dX10_leads_34 ?_
      refine g_icmp_ne k (tgt := 47) (by omega) (by omega) dX10_leads_35 (by decide) (fun c35 => ?_) (fun c35 => ?_)
      · skip
        refine g_iconst k dX10_leads_47 ?_
        rw [← hQQ]
        refine g_ireti k rfl dX10_leads_48 ?_
        exact ⟨rfl, by unfold tgt; split <;> first | rfl | omega | (split <;> first | rfl | omega)⟩
      · skip
        refine g_aload_n k rfl dX10_leads_38 ?_
        refine g_bipush k rfl dX10_leads_39 ?_
        refine g_iload_n k rfl dX10_leads_41 ?_
        refine g_iadd k dX10_leads_42 ?_
        refine g_iald k (30 + k1) hn (by omega) (by omega) (by decide) dX10_leads_43 ?_
        rw [show N (30 + k1) = (fi (φ) k1 : Int) from hR.f (by omega)]
        refine g_goto k (tgt := 48) dX10_leads_44 (by decide) ?_
        rw [← hQQ]
        refine g_ireti k rfl dX10_leads_48 ?_
        exact ⟨rfl, by unfold tgt; split <;> first | rfl | omega | (split <;> first | rfl | omega)⟩
  · skip
    refine g_aload_n k rfl dX10_leads_10 ?_
    refine g_bipush k rfl dX10_leads_11 ?_
    refine g_iload_n k rfl dX10_leads_13 ?_
    refine g_iadd k dX10_leads_14 ?_
    refine g_iald k (58 + k1) hn (by omega) (by omega) (by decide) dX10_leads_15 ?_
    rw [show N (58 + k1) = (se (φ) k1 : Int) from hR.s (by omega)]
    refine g_goto k (tgt := 48) dX10_leads_16 (by decide) ?_
    rw [← hQQ]
    refine g_ireti k rfl dX10_leads_48 ?_
    exact ⟨rfl, by unfold tgt; split <;> first | rfl | omega | (split <;> first | rfl | omega)⟩

def wM (k : Nat) (L : Int) : Int := if k = 0 then (if L = 0 then 10 else L) else (if L = 0 then -8 else 1 - L)
set_option maxHeartbeats 600000 in
set_option maxRecDepth 100000 in
theorem c_X10_weight {G : Gx} {h : Hp} {nx : Nat} {k1 : Nat} (hk1 : k1 ≤ 1) {L : Int} (rL : -2147483648 ≤ L ∧ L ≤ 2147483647) : Con G yX10_weight cX10_weight 2 (some .int) 1 0 0 [vi (k1 : Int), vi L] h nx (PI fun z h' => h' = h ∧ z = wM k1 L) := by
  refine Con.of v_X10_weight.2.2.2.2.1 (Nat.le_of_ble_eq_true rfl) (lv := [(0, vi (k1 : Int)), (1, vi L)]) rfl (fun X k => ?_)
  generalize hQQ : QM G X nx 0 0 _ = QQ
  refine g_iload_n k rfl dX10_weight_0 ?_
  refine g_if_ne k (tgt := 17) (by omega) dX10_weight_1 (by decide) (fun c1 => ?_) (fun c1 => ?_)
  · skip
    refine g_iload_n k rfl dX10_weight_17 ?_
    refine g_if_ne k (tgt := 26) (by omega) dX10_weight_18 (by decide) (fun c18 => ?_) (fun c18 => ?_)
    · skip
      refine g_iconst k dX10_weight_26 ?_
      refine g_iload_n k rfl dX10_weight_27 ?_
      refine g_isub k dX10_weight_28 ?_
      rw [← hQQ]
      refine g_ireti k rfl dX10_weight_29 ?_
      exact ⟨rfl, by unfold wM; (repeat' split) <;> omega⟩
    · skip
      refine g_bipush k rfl dX10_weight_21 ?_
      refine g_goto k (tgt := 29) dX10_weight_23 (by decide) ?_
      rw [← hQQ]
      refine g_ireti k rfl dX10_weight_29 ?_
      exact ⟨rfl, by unfold wM; (repeat' split) <;> omega⟩
  · skip
    refine g_iload_n k rfl dX10_weight_4 ?_
    refine g_if_ne k (tgt := 13) (by omega) dX10_weight_5 (by decide) (fun c5 => ?_) (fun c5 => ?_)
    · skip
      refine g_iload_n k rfl dX10_weight_13 ?_
      refine g_goto k (tgt := 29) dX10_weight_14 (by decide) ?_
      rw [← hQQ]
      refine g_ireti k rfl dX10_weight_29 ?_
      exact ⟨rfl, by unfold wM; (repeat' split) <;> omega⟩
    · skip
      refine g_bipush k rfl dX10_weight_8 ?_
      refine g_goto k (tgt := 29) dX10_weight_10 (by decide) ?_
      rw [← hQQ]
      refine g_ireti k rfl dX10_weight_29 ?_
      exact ⟨rfl, by unfold wM; (repeat' split) <;> omega⟩

set_option maxHeartbeats 600000 in
set_option maxRecDepth 100000 in
theorem c_X10_sign {G : Gx} {h : Hp} {nx : Nat} {k1 : Nat} (hk1 : k1 ≤ 1) : Con G yX10_sign cX10_sign 1 (some .int) 1 0 0 [vi (k1 : Int)] h nx (PI fun z h' => h' = h ∧ z = wt k1) := by
  refine Con.of v_X10_sign.2.2.2.2.1 (Nat.le_of_ble_eq_true rfl) (lv := [(0, vi (k1 : Int))]) rfl (fun X k => ?_)
  generalize hQQ : QM G X nx 0 0 _ = QQ
  refine g_iload_n k rfl dX10_sign_0 ?_
  refine g_if_ne k (tgt := 8) (by omega) dX10_sign_1 (by decide) (fun c1 => ?_) (fun c1 => ?_)
  · skip
    refine g_iconst k dX10_sign_8 ?_
    rw [← hQQ]
    refine g_ireti k rfl dX10_sign_9 ?_
    exact ⟨rfl, by unfold wt; split <;> omega⟩
  · skip
    refine g_iconst k dX10_sign_4 ?_
    refine g_goto k (tgt := 9) dX10_sign_5 (by decide) ?_
    rw [← hQQ]
    refine g_ireti k rfl dX10_sign_9 ?_
    exact ⟨rfl, by unfold wt; split <;> omega⟩

def lgF (S : Nat → Int) (j : Nat) (z : Int) : Nat → Int := if S j < z then fu S j z else S
set_option maxHeartbeats 600000 in
set_option maxRecDepth 100000 in
theorem c_X10_longer {G : Gx} {h : Hp} {nx : Nat} {m : Nat} {s : Nat → Int} (hm : h m = some (mo m s)) {S : Nat → Int} (hu : h (m + 11) = some (ai G 64 S)) {x y : Nat} (hx : x < 8) (hy : y < 8) {z0 : Int} (rz0 : -2147483648 ≤ z0 ∧ z0 ≤ 2147483647) (rS : -2147483648 ≤ S (x * 8 + y) ∧ S (x * 8 + y) ≤ 2147483647) : Con G yX10_longer cX10_longer 4 none 1 0 0 [.ref m, vi (x : Int), vi (y : Int), vi z0] h nx (PV fun h' => h' (m + 11) = some (ai G 64 (lgF S (x * 8 + y) z0)) ∧ ∀ q : Nat, q ≠ m + 11 → h' q = h q) := by
  refine Con.of v_X10_longer.2.2.2.2.2.1 (Nat.le_of_ble_eq_true rfl) (lv := [(0, .ref m), (1, vi (x : Int)), (2, vi (y : Int)), (3, vi z0)]) rfl (fun X k => ?_)
  generalize hQQ : QM G X nx 0 0 _ = QQ
  have fr0 : ∀ q : Nat, q ≠ m + 11 → h q = h q := fun _ _ => rfl
  refine g_iload_n k rfl dX10_longer_0 ?_
  refine g_aload_n k rfl dX10_longer_1 ?_
  refine g_get k 10 20 (C := RX10) (T := TX10) (N := 38) fl_X10_103 rfl wi_X10 (by decide) rfl hm rfl dX10_longer_2 ?_
  refine g_bipush k rfl dX10_longer_5 ?_
  refine g_iload_n k rfl dX10_longer_7 ?_
  refine g_imul k dX10_longer_8 ?_
  refine g_iload_n k rfl dX10_longer_9 ?_
  refine g_iadd k dX10_longer_10 ?_
  refine g_iald k (x * 8 + y) hu (by omega) (by omega) (by decide) dX10_longer_11 ?_
  refine g_icmp_le k (tgt := 27) (by omega) (by omega) dX10_longer_12 (by decide) (fun c12 => ?_) (fun c12 => ?_)
  · skip
    rw [← hQQ]
    refine g_retv k rfl dX10_longer_27 ?_
    exact ⟨by unfold lgF; rw [if_neg (by omega)]; exact hu, fr0⟩
  · skip
    refine g_aload_n k rfl dX10_longer_15 ?_
    refine g_get k 10 20 (C := RX10) (T := TX10) (N := 38) fl_X10_103 rfl wi_X10 (by decide) rfl hm rfl dX10_longer_16 ?_
    refine g_bipush k rfl dX10_longer_19 ?_
    refine g_iload_n k rfl dX10_longer_21 ?_
    refine g_imul k dX10_longer_22 ?_
    refine g_iload_n k rfl dX10_longer_23 ?_
    refine g_iadd k dX10_longer_24 ?_
    refine g_iload_n k rfl dX10_longer_25 ?_
    refine g_iast k (x * 8 + y) hu (by omega) (by omega) (by decide) dX10_longer_26 (fun h26 eh26 => ?_)
    have hm_ : h26 m = some (mo m s) := (congrFun eh26 _).trans ((hup_n (by omega)).trans hm)
    have hu_ : h26 (m + 11) = some (ai G 64 (fu S (x * 8 + y) z0)) := (congrFun eh26 _).trans hup_s
    have fr_ : ∀ q : Nat, q ≠ m + 11 → h26 q = h q := fun q hq => (congrFun eh26 q).trans ((hup_n (by omega)).trans (fr0 q hq))
    rw [← hQQ]
    refine g_retv k rfl dX10_longer_27 ?_
    exact ⟨by unfold lgF; rw [if_pos (by omega)]; exact hu_, fr_⟩

set_option maxHeartbeats 600000 in
set_option maxRecDepth 100000 in
theorem c_X10_items {G : Gx} {h : Hp} {nx : Nat} {m : Nat} {s : Nat → Int} (hm : h m = some (mo m s)) {N : Nat → Int} {it : Nat} {φ : Fs} (hn : h (m + 2) = some (ai G 86 N)) (hR : Rw N it φ) (hS : Sm it φ) : Con G yX10_items cX10_items 1 (some .int) 1 0 0 [.ref m] h nx (PI fun z h' => h' = h ∧ z = (it : Int)) := by
  refine Con.of v_X10_items.2.2.2.2.2.1 (Nat.le_of_ble_eq_true rfl) (lv := [(0, .ref m)]) rfl (fun X k => ?_)
  generalize hQQ : QM G X nx 0 0 _ = QQ
  refine g_aload_n k rfl dX10_items_0 ?_
  refine g_get k 10 10 (C := RX10) (T := TX10) (N := 38) fl_X10_74 rfl wi_X10 (by decide) rfl hm rfl dX10_items_1 ?_
  refine g_iconst k dX10_items_4 ?_
  refine g_iald k 0 hn (by omega) (by omega) (by decide) dX10_items_5 ?_
  rw [show N 0 = (it : Int) from hR.i]
  rw [← hQQ]
  refine g_ireti k rfl dX10_items_6 ?_
  exact ⟨rfl, rfl⟩

set_option maxHeartbeats 600000 in
set_option maxRecDepth 100000 in
theorem c_X10_facts {G : Gx} {h : Hp} {nx : Nat} {m : Nat} {s : Nat → Int} (hm : h m = some (mo m s)) {N : Nat → Int} {it : Nat} {φ : Fs} (hn : h (m + 2) = some (ai G 86 N)) (hR : Rw N it φ) (hS : Sm it φ) : Con G yX10_facts cX10_facts 1 (some .int) 1 0 0 [.ref m] h nx (PI fun z h' => h' = h ∧ z = (φ.length : Int)) := by
  refine Con.of v_X10_facts.2.2.2.2.2.1 (Nat.le_of_ble_eq_true rfl) (lv := [(0, .ref m)]) rfl (fun X k => ?_)
  generalize hQQ : QM G X nx 0 0 _ = QQ
  refine g_aload_n k rfl dX10_facts_0 ?_
  refine g_get k 10 10 (C := RX10) (T := TX10) (N := 38) fl_X10_74 rfl wi_X10 (by decide) rfl hm rfl dX10_facts_1 ?_
  refine g_iconst k dX10_facts_4 ?_
  refine g_iald k 1 hn (by omega) (by omega) (by decide) dX10_facts_5 ?_
  rw [show N 1 = (φ.length : Int) from hR.n]
  rw [← hQQ]
  refine g_ireti k rfl dX10_facts_6 ?_
  exact ⟨rfl, rfl⟩

set_option maxHeartbeats 600000 in
set_option maxRecDepth 100000 in
theorem c_X10_isItem {G : Gx} {h : Hp} {nx : Nat} {m : Nat} {s : Nat → Int} (hm : h m = some (mo m s)) {N : Nat → Int} {it : Nat} {φ : Fs} (hn : h (m + 2) = some (ai G 86 N)) (hR : Rw N it φ) (hS : Sm it φ) {p : Int} (rp : -2147483648 ≤ p ∧ p ≤ 2147483647) : Con G yX10_isItem cX10_isItem 2 (some .boolean) 2 0 0 [.ref m, vi p] h nx (PI fun z h' => h' = h ∧ bz (hasI it p) z) := by
  obtain ⟨h8, h28, hsm⟩ := id hS
  refine Con.of v_X10_isItem.2.2.2.2.2.1 (Nat.le_of_ble_eq_true rfl) (lv := [(0, .ref m), (1, vi p)]) rfl (fun X k => ?_)
  generalize hQQ : QM G X nx 0 0 _ = QQ
  refine g_iload_n k rfl dX10_isItem_0 ?_
  refine g_iconst k dX10_isItem_1 ?_
  refine g_aload_n k rfl dX10_isItem_2 ?_
  refine g_cVi k 10 (As := []) v_X10_items rfl rfl hm ml_X10_228 (c_X10_items hm hn hR hS) (by omega) (by omega) rfl (Nat.le_of_ble_eq_true rfl) rfl dX10_isItem_3 (fun r3 h3 p3 => ?_)
  obtain ⟨eh3, p3⟩ := p3
  have eh3 := eh3.symm; subst eh3
  subst p3
  refine g_iconst k dX10_isItem_6 ?_
  refine g_isub k dX10_isItem_7 ?_
  refine g_cSi k (As := [vi p, vi 0, vi ((it : Int) - 1)]) v_X10_isIn ml_X10_224 (c_X10_isIn rp (by omega) (by omega)) (by omega) (by omega) rfl (Nat.le_of_ble_eq_true rfl) rfl dX10_isItem_8 (fun r8 h8 p8 => ?_)
  obtain ⟨eh8, p8⟩ := p8
  have eh8 := eh8.symm; subst eh8
  rw [← hQQ]
  refine g_zreti k p8.rg rfl dX10_isItem_11 ?_
  have q8 := p8
  refine ⟨rfl, ?_⟩
  unfold hasI
  rcases q8 with ⟨a1, a2⟩ | ⟨a1, a2⟩
  · exact Or.inl ⟨by omega, a2⟩
  · exact Or.inr ⟨by omega, a2⟩

set_option maxHeartbeats 600000 in
set_option maxRecDepth 100000 in
theorem c_X10_areTwo {G : Gx} {h : Hp} {nx : Nat} {m : Nat} {s : Nat → Int} (hm : h m = some (mo m s)) {N : Nat → Int} {it : Nat} {φ : Fs} (hn : h (m + 2) = some (ai G 86 N)) (hR : Rw N it φ) (hS : Sm it φ) {p po : Int} (rp : -2147483648 ≤ p ∧ p ≤ 2147483647) (rpo : -2147483648 ≤ po ∧ po ≤ 2147483647) : Con G yX10_areTwo cX10_areTwo 3 (some .boolean) 3 0 0 [.ref m, vi p, vi po] h nx (PI fun z h' => h' = h ∧ bz (hasI it p ∧ hasI it po ∧ p ≠ po) z) := by
  refine Con.of v_X10_areTwo.2.2.2.2.2.1 (Nat.le_of_ble_eq_true rfl) (lv := [(0, .ref m), (1, vi p), (2, vi po)]) rfl (fun X k => ?_)
  generalize hQQ : QM G X nx 0 0 _ = QQ
  refine g_aload_n k rfl dX10_areTwo_0 ?_
  refine g_iload_n k rfl dX10_areTwo_1 ?_
  refine g_cVi k 10 (As := [vi p]) v_X10_isItem rfl rfl hm ml_X10_231 (c_X10_isItem hm hn hR hS rp) (by omega) (by omega) rfl (Nat.le_of_ble_eq_true rfl) rfl dX10_areTwo_2 (fun r2 h2 p2 => ?_)
  obtain ⟨eh2, p2⟩ := p2
  have eh2 := eh2.symm; subst eh2
  have q2 := p2.r
  refine g_if_eq k (tgt := 25) (by omega) dX10_areTwo_5 (by decide) (fun c5 => ?_) (fun c5 => ?_)
  · skip
    refine g_iconst k dX10_areTwo_25 ?_
    rw [← hQQ]
    refine g_zreti k (by omega) rfl dX10_areTwo_26 ?_
    refine ⟨rfl, ?_⟩
    first | exact bz.y ⟨p2.t ‹_›, p10.t ‹_›, by omega⟩ | exact bz.n (fun q => absurd q.1 (p2.f ‹_›)) | exact bz.n (fun q => absurd q.2.1 (p10.f ‹_›)) | exact bz.n (fun q => absurd ‹_› q.2.2)
  · skip
    refine g_aload_n k rfl dX10_areTwo_8 ?_
    refine g_iload_n k rfl dX10_areTwo_9 ?_
    refine g_cVi k 10 (As := [vi po]) v_X10_isItem rfl rfl hm ml_X10_231 (c_X10_isItem hm hn hR hS rpo) (by omega) (by omega) rfl (Nat.le_of_ble_eq_true rfl) rfl dX10_areTwo_10 (fun r10 h10 p10 => ?_)
    obtain ⟨eh10, p10⟩ := p10
    have eh10 := eh10.symm; subst eh10
    have q10 := p10.r
    refine g_if_eq k (tgt := 25) (by omega) dX10_areTwo_13 (by decide) (fun c13 => ?_) (fun c13 => ?_)
    · skip
      refine g_iconst k dX10_areTwo_25 ?_
      rw [← hQQ]
      refine g_zreti k (by omega) rfl dX10_areTwo_26 ?_
      refine ⟨rfl, ?_⟩
      first | exact bz.y ⟨p2.t ‹_›, p10.t ‹_›, by omega⟩ | exact bz.n (fun q => absurd q.1 (p2.f ‹_›)) | exact bz.n (fun q => absurd q.2.1 (p10.f ‹_›)) | exact bz.n (fun q => absurd ‹_› q.2.2)
    · skip
      refine g_iload_n k rfl dX10_areTwo_16 ?_
      refine g_iload_n k rfl dX10_areTwo_17 ?_
      refine g_icmp_eq k (tgt := 25) (by omega) (by omega) dX10_areTwo_18 (by decide) (fun c18 => ?_) (fun c18 => ?_)
      · skip
        refine g_iconst k dX10_areTwo_25 ?_
        rw [← hQQ]
        refine g_zreti k (by omega) rfl dX10_areTwo_26 ?_
        refine ⟨rfl, ?_⟩
        first | exact bz.y ⟨p2.t ‹_›, p10.t ‹_›, by omega⟩ | exact bz.n (fun q => absurd q.1 (p2.f ‹_›)) | exact bz.n (fun q => absurd q.2.1 (p10.f ‹_›)) | exact bz.n (fun q => absurd ‹_› q.2.2)
      · skip
        refine g_iconst k dX10_areTwo_21 ?_
        refine g_goto k (tgt := 26) dX10_areTwo_22 (by decide) ?_
        rw [← hQQ]
        refine g_zreti k (by omega) rfl dX10_areTwo_26 ?_
        refine ⟨rfl, ?_⟩
        first | exact bz.y ⟨p2.t ‹_›, p10.t ‹_›, by omega⟩ | exact bz.n (fun q => absurd q.1 (p2.f ‹_›)) | exact bz.n (fun q => absurd q.2.1 (p10.f ‹_›)) | exact bz.n (fun q => absurd ‹_› q.2.2)

set_option maxHeartbeats 600000 in
set_option maxRecDepth 100000 in
theorem c_X10_mayTell {G : Gx} {h : Hp} {nx : Nat} {m : Nat} {s : Nat → Int} (hm : h m = some (mo m s)) {N : Nat → Int} {it : Nat} {φ : Fs} (hn : h (m + 2) = some (ai G 86 N)) (hR : Rw N it φ) (hS : Sm it φ) {kx p p2 : Int} (rkx : -2147483648 ≤ kx ∧ kx ≤ 2147483647) (rp : -2147483648 ≤ p ∧ p ≤ 2147483647) (rp2 : -2147483648 ≤ p2 ∧ p2 ≤ 2147483647) : Con G yX10_mayTell cX10_mayTell 4 (some .boolean) 4 0 0 [.ref m, vi kx, vi p, vi p2] h nx (PI fun z h' => h' = h ∧ bz (nmd it φ kx p p2) z) := by
  obtain ⟨h8, h28, hsm⟩ := id hS
  have hib := @ix_b φ p p2
  refine Con.of v_X10_mayTell.2.2.2.2.2.1 (Nat.le_of_ble_eq_true rfl) (lv := [(0, .ref m), (1, vi kx), (2, vi p), (3, vi p2)]) rfl (fun X k => ?_)
  generalize hQQ : QM G X nx 0 0 _ = QQ
  refine g_iload_n k rfl dX10_mayTell_0 ?_
  refine g_iconst k dX10_mayTell_1 ?_
  refine g_iconst k dX10_mayTell_2 ?_
  refine g_cSi k (As := [vi kx, vi 0, vi 1]) v_X10_isIn ml_X10_224 (c_X10_isIn rkx (by omega) (by omega)) (by omega) (by omega) rfl (Nat.le_of_ble_eq_true rfl) rfl dX10_mayTell_3 (fun r3 h3 p3 => ?_)
  obtain ⟨eh3, p3⟩ := p3
  have eh3 := eh3.symm; subst eh3
  have q3 := p3
  have q3r := q3.r
  refine g_if_eq k (tgt := 35) (by omega) dX10_mayTell_6 (by decide) (fun c6 => ?_) (fun c6 => ?_)
  · skip
    refine g_iconst k dX10_mayTell_35 ?_
    rw [← hQQ]
    refine g_zreti k (by omega) rfl dX10_mayTell_36 ?_
    exact ⟨rfl, bz.n (fun q => by have := q.1; have := q3.f (by omega); omega)⟩
  · skip
    refine g_aload_n k rfl dX10_mayTell_9 ?_
    refine g_iload_n k rfl dX10_mayTell_10 ?_
    refine g_iload_n k rfl dX10_mayTell_11 ?_
    refine g_cVi k 10 (As := [vi p, vi p2]) v_X10_areTwo rfl rfl hm ml_X10_234 (c_X10_areTwo hm hn hR hS rp rp2) (by omega) (by omega) rfl (Nat.le_of_ble_eq_true rfl) rfl dX10_mayTell_12 (fun r12 h12 p12 => ?_)
    obtain ⟨eh12, p12⟩ := p12
    have eh12 := eh12.symm; subst eh12
    have q12 := p12
    have q12r := q12.r
    refine g_if_eq k (tgt := 35) (by omega) dX10_mayTell_15 (by decide) (fun c15 => ?_) (fun c15 => ?_)
    · skip
      refine g_iconst k dX10_mayTell_35 ?_
      rw [← hQQ]
      refine g_zreti k (by omega) rfl dX10_mayTell_36 ?_
      exact ⟨rfl, bz.n (fun q => absurd q.2.1 (q12.f (by omega)))⟩
    · skip
      refine g_aload_n k rfl dX10_mayTell_18 ?_
      refine g_get k 10 10 (C := RX10) (T := TX10) (N := 38) fl_X10_74 rfl wi_X10 (by decide) rfl hm rfl dX10_mayTell_19 ?_
      refine g_iload_n k rfl dX10_mayTell_22 ?_
      refine g_iload_n k rfl dX10_mayTell_23 ?_
      refine g_cSi k (As := [.ref (m + 2), vi p, vi p2]) v_X10_factOf ml_X10_142 (c_X10_factOf hn hR hS rp rp2) (by omega) (by omega) rfl (Nat.le_of_ble_eq_true rfl) rfl dX10_mayTell_24 (fun r24 h24 p24 => ?_)
      obtain ⟨eh24, p24⟩ := p24
      have eh24 := eh24.symm; subst eh24
      subst p24
      refine g_iconst k dX10_mayTell_27 ?_
      refine g_icmp_ne k (tgt := 35) (by omega) (by omega) dX10_mayTell_28 (by decide) (fun c28 => ?_) (fun c28 => ?_)
      · skip
        refine g_iconst k dX10_mayTell_35 ?_
        rw [← hQQ]
        refine g_zreti k (by omega) rfl dX10_mayTell_36 ?_
        exact ⟨rfl, bz.n (fun q => by have := q.2.2; omega)⟩
      · skip
        refine g_iconst k dX10_mayTell_31 ?_
        refine g_goto k (tgt := 36) dX10_mayTell_32 (by decide) ?_
        rw [← hQQ]
        refine g_zreti k (by omega) rfl dX10_mayTell_36 ?_
        exact ⟨rfl, bz.y ⟨by have := q3.t (by omega); omega, q12.t (by omega), by omega⟩⟩

set_option maxHeartbeats 600000 in
set_option maxRecDepth 100000 in
theorem c_X10_befores {G : Gx} {h : Hp} {nx : Nat} {m : Nat} {s : Nat → Int} (hm : h m = some (mo m s)) {N : Nat → Int} {it : Nat} {φ : Fs} (hn : h (m + 2) = some (ai G 86 N)) (hR : Rw N it φ) (hS : Sm it φ) : Con G yX10_befores cX10_befores 3 (some .int) 2 0 0 [.ref m] h nx (PI fun z h' => h' = h ∧ z = (bbF φ φ.length : Nat)) := by
  obtain ⟨h8, h28, hsm⟩ := id hS
  refine Con.of v_X10_befores.2.2.2.2.2.1 (Nat.le_of_ble_eq_true rfl) (lv := [(0, .ref m)]) rfl (fun X k => ?_)
  generalize hQQ : QM G X nx 0 0 _ = QQ
  refine g_iconst k dX10_befores_0 ?_
  refine g_istore_n k (lv2 := [(0, .ref m), (1, vi 0)]) (by decide) rfl rfl dX10_befores_1 ?_
  refine g_iconst k dX10_befores_2 ?_
  refine g_istore_n k (lv2 := [(0, .ref m), (1, vi 0), (2, vi 0)]) (by decide) rfl rfl dX10_befores_3 ?_
  have K4 : ∀ (nz : Nat) (v : Nat) (hv : v ≤ φ.length) (hmz : φ.length - v < nz), Go G X 3 QQ 0 0 nx 4 [(0, .ref m), (1, vi (bbF φ v : Int)), (2, vi (v : Int))] [] h := by
    intro nz
    induction nz with
    | zero => intro v hv hmz; exact absurd hmz (Nat.not_lt_zero _)
    | succ nz ih4 =>
      intro v hv hmz
      refine g_iload_n k rfl dX10_befores_4 ?_
      refine g_aload_n k rfl dX10_befores_5 ?_
      refine g_cVi k 10 (As := []) v_X10_facts rfl rfl hm ml_X10_237 (c_X10_facts hm hn hR hS) (by omega) (by omega) rfl (Nat.le_of_ble_eq_true rfl) rfl dX10_befores_6 (fun r6 h6 p6 => ?_)
      obtain ⟨eh6, p6⟩ := p6
      have eh6 := eh6.symm; subst eh6
      subst p6
      refine g_icmp_ge k (tgt := 35) (by omega) (by omega) dX10_befores_9 (by decide) (fun c9 => ?_) (fun c9 => ?_)
      · skip
        refine g_iload_n k rfl dX10_befores_35 ?_
        rw [← hQQ]
        refine g_ireti k rfl dX10_befores_36 ?_
        exact ⟨rfl, by rw [show v = φ.length by omega]⟩
      · skip
        have hb := hsm v (by omega)
        have hp := pow31 (n := v) (by omega)
        have hq := bbF_lt φ v
        refine g_aload_n k rfl dX10_befores_12 ?_
        refine g_get k 10 10 (C := RX10) (T := TX10) (N := 38) fl_X10_74 rfl wi_X10 (by decide) rfl hm rfl dX10_befores_13 ?_
        refine g_iconst k dX10_befores_16 ?_
        refine g_iload_n k rfl dX10_befores_17 ?_
        refine g_iadd k dX10_befores_18 ?_
        refine g_iald k (2 + v) hn (by omega) (by omega) (by decide) dX10_befores_19 ?_
        rw [show N (2 + v) = (kd (φ) v : Int) from hR.k (by omega)]
        refine g_if_ne k (tgt := 29) (by omega) dX10_befores_20 (by decide) (fun c20 => ?_) (fun c20 => ?_)
        · skip
          refine g_iinc k (lv2 := [(0, .ref m), (1, vi (bbF φ v : Int)), (2, vi ((v : Int) + 1))]) rfl (by decide) rfl rfl dX10_befores_29 ?_
          refine g_goto k (tgt := 4) dX10_befores_32 (by decide) ?_
          rw [show (bbF φ v : Int) = (bbF φ (v + 1) : Nat) by rw [show bbF φ (v + 1) = bbF φ v by rw [bbF, if_neg (by omega)]]]
          exact ih4 (v + 1) (by omega) (by omega)
        · skip
          refine g_iload_n k rfl dX10_befores_23 ?_
          refine g_iconst k dX10_befores_24 ?_
          refine g_iload_n k rfl dX10_befores_25 ?_
          refine g_ishl k (by omega) dX10_befores_26 ?_
          rw [show 1 * 2 ^ ((v : Int)).toNat = ((2 ^ v : Nat) : Int) from (by rw [Int.toNat_natCast]; simp)]
          refine g_ior k (a := bbF φ v) (b := 2 ^ v) (by omega) (by omega) dX10_befores_27 ?_
          refine g_istore_n k (lv2 := [(0, .ref m), (1, vi ((bbF φ v ||| 2 ^ v : Nat) : Int)), (2, vi (v : Int))]) (by decide) rfl rfl dX10_befores_28 ?_
          refine g_iinc k (lv2 := [(0, .ref m), (1, vi ((bbF φ v ||| 2 ^ v : Nat) : Int)), (2, vi ((v : Int) + 1))]) rfl (by decide) rfl rfl dX10_befores_29 ?_
          refine g_goto k (tgt := 4) dX10_befores_32 (by decide) ?_
          rw [show ((bbF φ v ||| 2 ^ v : Nat) : Int) = (bbF φ (v + 1) : Nat) by rw [show bbF φ (v + 1) = bbF φ v ||| 2 ^ v by rw [bbF, if_pos (by omega)]]]
          exact ih4 (v + 1) (by omega) (by omega)
  exact K4 _ 0 (Nat.zero_le _) (Nat.lt_succ_self _)

