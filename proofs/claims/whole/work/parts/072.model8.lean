/-! the reference: shapes -/
theorem ct_y {p : Nat → Prop} {n : Nat} (h : p n) : ct p (n + 1) = ct p n + 1 := by rw [ct, if_pos h]
theorem ct_no {p : Nat → Prop} {n : Nat} (h : ¬ p n) : ct p (n + 1) = ct p n := by rw [ct, if_neg h]
theorem ct_up {p : Nat → Prop} {a : Nat} : ∀ n, a ≤ n → ct p a ≤ ct p n
  | 0, h => by rw [show a = 0 by omega]; exact Nat.le_refl _
  | n + 1, h => by
    by_cases e : a = n + 1
    · rw [e]; exact Nat.le_refl _
    · have := ct_up (p := p) (a := a) n (by omega)
      by_cases g : p n
      · rw [ct_y g]; omega
      · rw [ct_no g]; exact this
theorem ct_lt {p : Nat → Prop} {b n : Nat} (hb : b < n) (h : p b) : ct p b < ct p n := by
  have := ct_up (p := p) (a := b + 1) n (by omega)
  rw [ct_y h] at this
  omega
theorem ct_ne {p : Nat → Prop} {b : Nat} (h : ¬ p b) : ∀ n, b < n → ct p n < n
  | 0, hb => absurd hb (Nat.not_lt_zero b)
  | n + 1, hb => by
    have h1 := ct_le p n
    by_cases e : b = n
    · subst e; rw [ct_no h]; omega
    · have := ct_ne h n (by omega)
      by_cases g : p n
      · rw [ct_y g]; omega
      · rw [ct_no g]; omega
theorem ct_split {c : Nat → Nat} {v : Nat} : ∀ n, ct (fun i => c i ≤ v) n = ct (fun i => c i < v) n + ct (fun i => c i = v) n
  | 0 => rfl
  | n + 1 => by
    have ih := ct_split (c := c) (v := v) n
    rcases Nat.lt_trichotomy (c n) v with g | g | g
    · rw [ct_y (p := fun i => c i ≤ v) (by omega), ct_y (p := fun i => c i < v) g, ct_no (p := fun i => c i = v) (by omega)]; omega
    · rw [ct_y (p := fun i => c i ≤ v) (by omega), ct_no (p := fun i => c i < v) (by omega), ct_y (p := fun i => c i = v) g]; omega
    · rw [ct_no (p := fun i => c i ≤ v) (by omega), ct_no (p := fun i => c i < v) (by omega), ct_no (p := fun i => c i = v) (by omega)]; omega
theorem ct_down {p : Nat → Prop} : ∀ n, (∀ i j, i < j → j < n → p j → p i) → ∀ i, i < n → (p i ↔ i < ct p n)
  | 0, _, i, hi => absurd hi (Nat.not_lt_zero i)
  | n + 1, h, i, hi => by
    by_cases g : p n
    · have e : ct p n = n := ct_all n (fun j hj => h j n hj (by omega) g)
      rw [ct_y g, e]
      refine ⟨fun _ => hi, fun _ => ?_⟩
      by_cases e2 : i = n
      · rw [e2]; exact g
      · exact h i n (by omega) (by omega) g
    · rw [ct_no g]
      by_cases e2 : i = n
      · subst e2
        have := ct_le p i
        exact ⟨fun q => absurd q g, fun q => by omega⟩
      · exact ct_down n (fun a b h1 h2 => h a b h1 (by omega)) i (by omega)
theorem Std_at {P c : Nat → Nat} {n i t : Nat} (h : Std P c n) (hi : i < n) : P i ≤ t ↔ i < ct (fun i => c i ≤ t) n := by
  rw [← h.2.2 t]
  exact ct_down (p := fun i => P i ≤ t) n (fun a b h1 h2 h3 => Nat.le_trans (h.1 a b h1 h2) h3) i hi
theorem Std_pl {P c : Nat → Nat} {n v b : Nat} (h : Std P c n) (hb : b < n) (hc : c b = v) : ct (fun i => c i < v) n + ct (fun i => c i = v) b < n ∧ P (ct (fun i => c i < v) n + ct (fun i => c i = v) b) = v := by
  have h1 := ct_lt (p := fun i => c i = v) hb hc
  have h2 := ct_split (c := c) (v := v) n
  have h3 := ct_le (fun i => c i ≤ v) n
  have hlt : ct (fun i => c i < v) n + ct (fun i => c i = v) b < n := by omega
  refine ⟨hlt, ?_⟩
  have g1 := (Std_at (t := v) h hlt).mpr (by omega)
  cases v with
  | zero => omega
  | succ v =>
    have g2 : ¬ P (ct (fun i => c i < v + 1) n + ct (fun i => c i = v + 1) b) ≤ v := fun q => by
      have q2 := (Std_at (t := v) h hlt).mp q
      have e : ct (fun i => c i ≤ v) n = ct (fun i => c i < v + 1) n := ct_ext n (fun j _ => by omega)
      omega
    omega
theorem cah_lt {B : Nat → Int} {L : Int} {it v : Nat} (hL : 1 ≤ L) (hv : v < it) : cah B L it v < it := ct_ne (b := v) (by unfold pre; omega) it hv
theorem ct_0 {c : Nat → Nat} {n : Nat} : ct (fun i => c i < 0) n = 0 := by
  induction n with
  | zero => rfl
  | succ n ih => rw [ct_no (p := fun i => c i < 0) (Nat.not_lt_zero _), ih]
set_option maxHeartbeats 600000 in
set_option maxRecDepth 100000 in
theorem c_X10_laysShape {G : Gx} {h : Hp} {nx : Nat} {m : Nat} {s : Nat → Int} (hm : h m = some (mo m s)) {N : Nat → Int} {it : Nat} {φ : Fs} (hn : h (m + 2) = some (ai G 86 N)) (hR : Rw N it φ) (hS : Sm it φ) {S : Nat → Int} (hu : h (m + 11) = some (ai G 64 S)) {Bg : Nat → Int} (hg : h (m + 15) = some (ai G 8 Bg)) {L : Nat} (hL : isL φ it L) {P : Nat → Nat} (hP : Std P (cah (bgn φ it L) L it) it) {Sr : Nat → Int} (hsr : h (m + 17) = some (ai G 8 Sr)) : Con G yX10_laysShape cX10_laysShape 6 none 6 0 0 [.ref m] h nx (PV fun h' => (h' m = some (mo m (fu s 19 (L : Int))) ∧ aI G 64 (h' (m + 11)) ∧ aI G 8 (h' (m + 15)) ∧ ∃ R2 : Nat → Int, h' (m + 17) = some (ai G 8 R2) ∧ ∀ j, j < it → R2 j = P j) ∧ ∀ q : Nat, (q ≠ m ∧ q ≠ m + 11 ∧ q ≠ m + 15 ∧ q ≠ m + 17) → h' q = h q) := by
  obtain ⟨h8, h28, hsm⟩ := id hS
  have hO := bgn_ok hS.1 hL
  obtain ⟨l1, l2, l3, l4⟩ := id hL
  have hL60 : 1 ≤ (L : Int) ∧ (L : Int) ≤ 60 := by omega
  refine Con.of v_X10_laysShape.2.2.2.2.2.1 (Nat.le_of_ble_eq_true rfl) (lv := [(0, .ref m)]) rfl (fun X k => ?_)
  generalize hQQ : QM G X nx 0 0 _ = QQ
  have fr0 : ∀ q : Nat, (q ≠ m ∧ q ≠ m + 11 ∧ q ≠ m + 15 ∧ q ≠ m + 17) → h q = h q := fun _ _ => rfl
  refine g_aload_n k rfl dX10_laysShape_0 ?_
  refine g_cVv k 10 (As := []) v_X10_laysOrder rfl rfl hm ml_X10_296 (c_X10_laysOrder hm hn hR hS hu hg hL) (by omega) (by omega) rfl (Nat.le_of_ble_eq_true rfl) rfl dX10_laysShape_1 (fun h1 p1 => ?_)
  obtain ⟨⟨nm9, ⟨S9, nu9⟩, B9, ng9, hBg⟩, nfr9⟩ := p1
  have hm_ : h1 m = some (mo m (fu s 19 (L : Int))) := nm9
  have hn_ : h1 (m + 2) = some (ai G 86 N) := (nfr9 _ (by omega)).trans hn
  have hu_ : h1 (m + 11) = some (ai G 64 S9) := nu9
  have hg_ : h1 (m + 15) = some (ai G 8 B9) := ng9
  have hsr_ : h1 (m + 17) = some (ai G 8 Sr) := (nfr9 _ (by omega)).trans hsr
  have fr_ : ∀ q : Nat, (q ≠ m ∧ q ≠ m + 11 ∧ q ≠ m + 15 ∧ q ≠ m + 17) → h1 q = h q := fun q hq => (nfr9 q (by omega)).trans (fr0 q hq)
  refine g_iconst k dX10_laysShape_4 ?_
  refine g_istore_n k (lv2 := [(0, .ref m), (1, vi 0)]) (by decide) rfl rfl dX10_laysShape_5 ?_
  have K6 : ∀ (nz : Nat) (c : Nat) (R0 : Nat → Int) (h6 : Hp) (hm__1 : h6 m = some (mo m (fu s 19 (L : Int)))) (hn__1 : h6 (m + 2) = some (ai G 86 N)) (hu__1 : h6 (m + 11) = some (ai G 64 S9)) (hg__1 : h6 (m + 15) = some (ai G 8 B9)) (hsr__1 : h6 (m + 17) = some (ai G 8 R0)) (fr__1 : ∀ q : Nat, (q ≠ m ∧ q ≠ m + 11 ∧ q ≠ m + 15 ∧ q ≠ m + 17) → h6 q = h q) (hc : c ≤ it) (hmz : it - c < nz), Go G X 6 QQ 0 0 nx 6 [(0, .ref m), (1, vi (c : Int))] [] h6 := by
    intro nz
    induction nz with
    | zero => intro c R0 h6 hm__1 hn__1 hu__1 hg__1 hsr__1 fr__1 hc hmz; exact absurd hmz (Nat.not_lt_zero _)
    | succ nz ih6 =>
      intro c R0 h6 hm__1 hn__1 hu__1 hg__1 hsr__1 fr__1 hc hmz
      refine g_iload_n k rfl dX10_laysShape_6 ?_
      refine g_aload_n k rfl dX10_laysShape_7 ?_
      refine g_cVi k 10 (As := []) v_X10_items rfl rfl hm__1 ml_X10_228 (c_X10_items hm__1 hn__1 hR hS) (by omega) (by omega) rfl (Nat.le_of_ble_eq_true rfl) rfl dX10_laysShape_8 (fun r8 h8 p8 => ?_)
      obtain ⟨eh8, p8⟩ := p8
      have eh8 := eh8.symm; subst eh8
      subst p8
      refine g_icmp_ge k (tgt := 27) (by omega) (by omega) dX10_laysShape_11 (by decide) (fun c11 => ?_) (fun c11 => ?_)
      · skip
        refine g_iconst k dX10_laysShape_27 ?_
        refine g_istore_n k (lv2 := [(0, .ref m), (1, vi 0)]) (by decide) rfl rfl dX10_laysShape_28 ?_
        refine g_iconst k dX10_laysShape_29 ?_
        refine g_istore_n k (lv2 := [(0, .ref m), (1, vi 0), (2, vi 0)]) (by decide) rfl rfl dX10_laysShape_30 ?_
        have K31 : ∀ (nz_1 : Nat) (v : Nat) (R1 : Nat → Int) (h31 : Hp) (hm__2 : h31 m = some (mo m (fu s 19 (L : Int)))) (hn__2 : h31 (m + 2) = some (ai G 86 N)) (hu__2 : h31 (m + 11) = some (ai G 64 S9)) (hg__2 : h31 (m + 15) = some (ai G 8 B9)) (hsr__2 : h31 (m + 17) = some (ai G 8 R1)) (fr__2 : ∀ q : Nat, (q ≠ m ∧ q ≠ m + 11 ∧ q ≠ m + 15 ∧ q ≠ m + 17) → h31 q = h q) (hv : v ≤ it) (hr1 : ∀ j, j < (ct (fun i => (cah (bgn φ it L) L it) i < v) it) → R1 j = P j) (hmz_1 : it - v < nz_1), Go G X 6 QQ 0 0 nx 31 [(0, .ref m), (1, vi ((ct (fun i => (cah (bgn φ it L) L it) i < v) it) : Int)), (2, vi (v : Int))] [] h31 := by
          intro nz_1
          induction nz_1 with
          | zero => intro v R1 h31 hm__2 hn__2 hu__2 hg__2 hsr__2 fr__2 hv hr1 hmz_1; exact absurd hmz_1 (Nat.not_lt_zero _)
          | succ nz_1 ih31 =>
            intro v R1 h31 hm__2 hn__2 hu__2 hg__2 hsr__2 fr__2 hv hr1 hmz_1
            refine g_iload_n k rfl dX10_laysShape_31 ?_
            refine g_aload_n k rfl dX10_laysShape_32 ?_
            refine g_cVi k 10 (As := []) v_X10_items rfl rfl hm__2 ml_X10_228 (c_X10_items hm__2 hn__2 hR hS) (by omega) (by omega) rfl (Nat.le_of_ble_eq_true rfl) rfl dX10_laysShape_33 (fun r33 h33 p33 => ?_)
            obtain ⟨eh33, p33⟩ := p33
            have eh33 := eh33.symm; subst eh33
            subst p33
            refine g_icmp_ge k (tgt := 114) (by omega) (by omega) dX10_laysShape_36 (by decide) (fun c36 => ?_) (fun c36 => ?_)
            · skip
              rw [← hQQ]
              refine g_retv k rfl dX10_laysShape_114 ?_
              have ev : (ct (fun i => (cah (bgn φ it L) L it) i < v) it) = it := by rw [show v = it by omega]; exact ct_all it (fun j hj => cah_lt hL60.1 hj)
              exact ⟨⟨hm__2, ⟨_, hu__2⟩, ⟨_, hg__2⟩, R1, hsr__2, fun j hj => hr1 j (by omega)⟩, fr__2⟩
            · skip
              refine g_iconst k dX10_laysShape_39 ?_
              refine g_istore_n k (lv2 := [(0, .ref m), (1, vi ((ct (fun i => (cah (bgn φ it L) L it) i < v) it) : Int)), (2, vi (v : Int)), (3, vi 0)]) (by decide) rfl rfl dX10_laysShape_40 ?_
              have K41 : ∀ (nz_2 : Nat) (b : Nat) (R2 : Nat → Int) (h41 : Hp) (hm__3 : h41 m = some (mo m (fu s 19 (L : Int)))) (hn__3 : h41 (m + 2) = some (ai G 86 N)) (hu__3 : h41 (m + 11) = some (ai G 64 S9)) (hg__3 : h41 (m + 15) = some (ai G 8 B9)) (hsr__3 : h41 (m + 17) = some (ai G 8 R2)) (fr__3 : ∀ q : Nat, (q ≠ m ∧ q ≠ m + 11 ∧ q ≠ m + 15 ∧ q ≠ m + 17) → h41 q = h q) (hb : b ≤ it) (hr2 : ∀ j, j < (ct (fun i => (cah (bgn φ it L) L it) i < v) it) + ct (fun i => (cah (bgn φ it L) L it) i = v) b → R2 j = P j) (hmz_2 : it - b < nz_2), Go G X 6 QQ 0 0 nx 41 [(0, .ref m), (1, vi (((ct (fun i => (cah (bgn φ it L) L it) i < v) it) + ct (fun i => (cah (bgn φ it L) L it) i = v) b : Nat) : Int)), (2, vi (v : Int)), (3, vi (b : Int))] [] h41 := by
                intro nz_2
                induction nz_2 with
                | zero => intro b R2 h41 hm__3 hn__3 hu__3 hg__3 hsr__3 fr__3 hb hr2 hmz_2; exact absurd hmz_2 (Nat.not_lt_zero _)
                | succ nz_2 ih41 =>
                  intro b R2 h41 hm__3 hn__3 hu__3 hg__3 hsr__3 fr__3 hb hr2 hmz_2
                  refine g_iload_n k rfl dX10_laysShape_41 ?_
                  refine g_aload_n k rfl dX10_laysShape_42 ?_
                  refine g_cVi k 10 (As := []) v_X10_items rfl rfl hm__3 ml_X10_228 (c_X10_items hm__3 hn__3 hR hS) (by omega) (by omega) rfl (Nat.le_of_ble_eq_true rfl) rfl dX10_laysShape_43 (fun r43 h43 p43 => ?_)
                  obtain ⟨eh43, p43⟩ := p43
                  have eh43 := eh43.symm; subst eh43
                  subst p43
                  refine g_icmp_ge k (tgt := 108) (by omega) (by omega) dX10_laysShape_46 (by decide) (fun c46 => ?_) (fun c46 => ?_)
                  · skip
                    refine g_iinc k (lv2 := [(0, .ref m), (1, vi (((ct (fun i => (cah (bgn φ it L) L it) i < v) it) + ct (fun i => (cah (bgn φ it L) L it) i = v) b : Nat) : Int)), (2, vi ((v : Int) + 1)), (3, vi (b : Int))]) rfl (by decide) rfl rfl dX10_laysShape_108 ?_
                    refine g_goto k (tgt := 31) dX10_laysShape_111 (by decide) ?_
                    have epv : ct (fun i => (cah (bgn φ it L) L it) i < v + 1) it = (ct (fun i => (cah (bgn φ it L) L it) i < v) it) + ct (fun i => (cah (bgn φ it L) L it) i = v) b := by rw [show b = it by omega, ← ct_split]; exact ct_ext it (fun j _ => by omega)
                    refine g_less (lv2 := [(0, .ref m), (1, vi (ct (fun i => (cah (bgn φ it L) L it) i < v + 1) it : Int)), (2, vi ((v : Int) + 1))]) ⟨rfl, (by rw [epv]; rfl), rfl, trivial⟩ ?_
                    exact ih31 (v + 1) _ h41 hm__3 hn__3 hu__3 hg__3 hsr__3 fr__3 (by omega) (fun j hj => hr2 j (by omega)) (by omega)
                  · skip
                    refine g_iconst k dX10_laysShape_49 ?_
                    refine g_istore k (lv2 := [(0, .ref m), (1, vi (((ct (fun i => (cah (bgn φ it L) L it) i < v) it) + ct (fun i => (cah (bgn φ it L) L it) i = v) b : Nat) : Int)), (2, vi (v : Int)), (3, vi (b : Int)), (4, vi 0)]) (by decide) rfl rfl dX10_laysShape_50 ?_
                    refine g_iconst k dX10_laysShape_52 ?_
                    refine g_istore k (lv2 := [(0, .ref m), (1, vi (((ct (fun i => (cah (bgn φ it L) L it) i < v) it) + ct (fun i => (cah (bgn φ it L) L it) i = v) b : Nat) : Int)), (2, vi (v : Int)), (3, vi (b : Int)), (4, vi 0), (5, vi 0)]) (by decide) rfl rfl dX10_laysShape_53 ?_
                    have K55 : ∀ (nz_3 : Nat) (a : Nat) (ha : a ≤ it) (hmz_3 : it - a < nz_3), Go G X 6 QQ 0 0 nx 55 [(0, .ref m), (1, vi (((ct (fun i => (cah (bgn φ it L) L it) i < v) it) + ct (fun i => (cah (bgn φ it L) L it) i = v) b : Nat) : Int)), (2, vi (v : Int)), (3, vi (b : Int)), (4, vi (ct (fun u => pre (bgn φ it L) L u b) a : Int)), (5, vi (a : Int))] [] h41 := by
                      intro nz_3
                      induction nz_3 with
                      | zero => intro a ha hmz_3; exact absurd hmz_3 (Nat.not_lt_zero _)
                      | succ nz_3 ih55 =>
                        intro a ha hmz_3
                        refine g_iload k rfl dX10_laysShape_55 ?_
                        refine g_aload_n k rfl dX10_laysShape_57 ?_
                        refine g_cVi k 10 (As := []) v_X10_items rfl rfl hm__3 ml_X10_228 (c_X10_items hm__3 hn__3 hR hS) (by omega) (by omega) rfl (Nat.le_of_ble_eq_true rfl) rfl dX10_laysShape_58 (fun r58 h58 p58 => ?_)
                        obtain ⟨eh58, p58⟩ := p58
                        have eh58 := eh58.symm; subst eh58
                        subst p58
                        refine g_icmp_ge k (tgt := 83) (by omega) (by omega) dX10_laysShape_61 (by decide) (fun c61 => ?_) (fun c61 => ?_)
                        · skip
                          have ea : ct (fun u => pre (bgn φ it L) L u b) a = (cah (bgn φ it L) L it) b := by rw [show a = it by omega]; rfl
                          have hcl := ct_le (fun u => pre (bgn φ it L) L u b) a
                          refine g_iload k rfl dX10_laysShape_83 ?_
                          refine g_iload_n k rfl dX10_laysShape_85 ?_
                          refine g_icmp_eq k (tgt := 92) (by omega) (by omega) dX10_laysShape_86 (by decide) (fun c86 => ?_) (fun c86 => ?_)
                          · skip
                            have hcb : (cah (bgn φ it L) L it) b = v := by omega
                            have hpl := Std_pl hP (show b < it by omega) hcb
                            refine g_aload_n k rfl dX10_laysShape_92 ?_
                            refine g_get k 10 36 (v := .ref (m + 17)) (C := RX10) (T := TX10) (N := 38) fl_X10_124 rfl wi_X10 (by decide) rfl hm__3 rfl dX10_laysShape_93 ?_
                            refine g_iload_n k rfl dX10_laysShape_96 ?_
                            refine g_iload_n k rfl dX10_laysShape_97 ?_
                            refine g_iast k ((ct (fun i => (cah (bgn φ it L) L it) i < v) it) + ct (fun i => (cah (bgn φ it L) L it) i = v) b) hsr__3 (by omega) (by omega) (by decide) dX10_laysShape_98 (fun h98 eh98 => ?_)
                            have hm__4 : h98 m = some (mo m (fu s 19 (L : Int))) := (congrFun eh98 _).trans ((hup_n (by omega)).trans hm__3)
                            have hn__4 : h98 (m + 2) = some (ai G 86 N) := (congrFun eh98 _).trans ((hup_n (by omega)).trans hn__3)
                            have hu__4 : h98 (m + 11) = some (ai G 64 S9) := (congrFun eh98 _).trans ((hup_n (by omega)).trans hu__3)
                            have hg__4 : h98 (m + 15) = some (ai G 8 B9) := (congrFun eh98 _).trans ((hup_n (by omega)).trans hg__3)
                            have hsr__4 : h98 (m + 17) = some (ai G 8 (fu R2 ((ct (fun i => (cah (bgn φ it L) L it) i < v) it) + ct (fun i => (cah (bgn φ it L) L it) i = v) b) (v : Int))) := (congrFun eh98 _).trans hup_s
                            have fr__4 : ∀ q : Nat, (q ≠ m ∧ q ≠ m + 11 ∧ q ≠ m + 15 ∧ q ≠ m + 17) → h98 q = h q := fun q hq => (congrFun eh98 q).trans ((hup_n (by omega)).trans (fr__3 q hq))
                            refine g_iinc k (lv2 := [(0, .ref m), (1, vi ((((ct (fun i => (cah (bgn φ it L) L it) i < v) it) + ct (fun i => (cah (bgn φ it L) L it) i = v) b : Nat) : Int) + 1)), (2, vi (v : Int)), (3, vi (b : Int)), (4, vi (ct (fun u => pre (bgn φ it L) L u b) a : Int)), (5, vi (a : Int))]) rfl (by decide) rfl rfl dX10_laysShape_99 ?_
                            refine g_iinc k (lv2 := [(0, .ref m), (1, vi ((((ct (fun i => (cah (bgn φ it L) L it) i < v) it) + ct (fun i => (cah (bgn φ it L) L it) i = v) b : Nat) : Int) + 1)), (2, vi (v : Int)), (3, vi ((b : Int) + 1)), (4, vi (ct (fun u => pre (bgn φ it L) L u b) a : Int)), (5, vi (a : Int))]) rfl (by decide) rfl rfl dX10_laysShape_102 ?_
                            refine g_goto k (tgt := 41) dX10_laysShape_105 (by decide) ?_
                            refine g_less (lv2 := [(0, .ref m), (1, vi ((((ct (fun i => (cah (bgn φ it L) L it) i < v) it) + ct (fun i => (cah (bgn φ it L) L it) i = v) b : Nat) : Int) + 1)), (2, vi (v : Int)), (3, vi ((b : Int) + 1))]) ⟨rfl, rfl, rfl, rfl, trivial⟩ ?_
                            rw [show (((ct (fun i => (cah (bgn φ it L) L it) i < v) it) + ct (fun i => (cah (bgn φ it L) L it) i = v) b : Nat) : Int) + 1 = (((ct (fun i => (cah (bgn φ it L) L it) i < v) it) + ct (fun i => (cah (bgn φ it L) L it) i = v) (b + 1) : Nat) : Int) by rw [ct_y (p := fun i => (cah (bgn φ it L) L it) i = v) hcb]; omega]
                            exact ih41 (b + 1) _ h98 hm__4 hn__4 hu__4 hg__4 hsr__4 fr__4 (by omega) (by rw [ct_y (p := fun i => (cah (bgn φ it L) L it) i = v) hcb, ← Nat.add_assoc]; exact lt_s2 (fun j hj => (fu_n (by omega)).trans (hr2 j hj)) (fu_s.trans (by rw [hpl.2]))) (by omega)
                          · skip
                            have hcb : ¬ (cah (bgn φ it L) L it) b = v := by omega
                            refine g_goto k (tgt := 102) dX10_laysShape_89 (by decide) ?_
                            refine g_iinc k (lv2 := [(0, .ref m), (1, vi (((ct (fun i => (cah (bgn φ it L) L it) i < v) it) + ct (fun i => (cah (bgn φ it L) L it) i = v) b : Nat) : Int)), (2, vi (v : Int)), (3, vi ((b : Int) + 1)), (4, vi (ct (fun u => pre (bgn φ it L) L u b) a : Int)), (5, vi (a : Int))]) rfl (by decide) rfl rfl dX10_laysShape_102 ?_
                            refine g_goto k (tgt := 41) dX10_laysShape_105 (by decide) ?_
                            refine g_less (lv2 := [(0, .ref m), (1, vi (((ct (fun i => (cah (bgn φ it L) L it) i < v) it) + ct (fun i => (cah (bgn φ it L) L it) i = v) b : Nat) : Int)), (2, vi (v : Int)), (3, vi ((b : Int) + 1))]) ⟨rfl, rfl, rfl, rfl, trivial⟩ ?_
                            rw [show (ct (fun i => (cah (bgn φ it L) L it) i < v) it) + ct (fun i => (cah (bgn φ it L) L it) i = v) b = (ct (fun i => (cah (bgn φ it L) L it) i < v) it) + ct (fun i => (cah (bgn φ it L) L it) i = v) (b + 1) by rw [ct_no (p := fun i => (cah (bgn φ it L) L it) i = v) hcb]]
                            exact ih41 (b + 1) _ h41 hm__3 hn__3 hu__3 hg__3 hsr__3 fr__3 (by omega) (by rw [ct_no (p := fun i => (cah (bgn φ it L) L it) i = v) hcb]; exact hr2) (by omega)
                        · skip
                          refine g_aload_n k rfl dX10_laysShape_64 ?_
                          refine g_iload k rfl dX10_laysShape_65 ?_
                          refine g_iload_n k rfl dX10_laysShape_67 ?_
                          refine g_cVi k 10 (As := [vi (a : Int), vi (b : Int)]) v_X10_isAhead rfl rfl hm__3 ml_X10_299 (c_X10_isAhead hm__3 hg__3 hO hBg rfl hL60 (x := a) (y := b) (by omega) (by omega)) (by omega) (by omega) rfl (Nat.le_of_ble_eq_true rfl) rfl dX10_laysShape_68 (fun r68 h68 p68 => ?_)
                          obtain ⟨eh68, p68⟩ := p68
                          have eh68 := eh68.symm; subst eh68
                          have q68 := p68
                          have q68r := q68.r
                          refine g_if_eq k (tgt := 77) (by omega) dX10_laysShape_71 (by decide) (fun c71 => ?_) (fun c71 => ?_)
                          · skip
                            refine g_iinc k (lv2 := [(0, .ref m), (1, vi (((ct (fun i => (cah (bgn φ it L) L it) i < v) it) + ct (fun i => (cah (bgn φ it L) L it) i = v) b : Nat) : Int)), (2, vi (v : Int)), (3, vi (b : Int)), (4, vi (ct (fun u => pre (bgn φ it L) L u b) a : Int)), (5, vi ((a : Int) + 1))]) rfl (by decide) rfl rfl dX10_laysShape_77 ?_
                            refine g_goto k (tgt := 55) dX10_laysShape_80 (by decide) ?_
                            rw [show ct (fun u => pre (bgn φ it L) L u b) a = ct (fun u => pre (bgn φ it L) L u b) (a + 1) from (ct_no (p := (fun u => pre (bgn φ it L) L u b)) (q68.f (by omega))).symm]
                            exact ih55 (a + 1) (by omega) (by omega)
                          · skip
                            refine g_iinc k (lv2 := [(0, .ref m), (1, vi (((ct (fun i => (cah (bgn φ it L) L it) i < v) it) + ct (fun i => (cah (bgn φ it L) L it) i = v) b : Nat) : Int)), (2, vi (v : Int)), (3, vi (b : Int)), (4, vi ((ct (fun u => pre (bgn φ it L) L u b) a : Int) + 1)), (5, vi (a : Int))]) rfl (by decide) rfl rfl dX10_laysShape_74 ?_
                            refine g_iinc k (lv2 := [(0, .ref m), (1, vi (((ct (fun i => (cah (bgn φ it L) L it) i < v) it) + ct (fun i => (cah (bgn φ it L) L it) i = v) b : Nat) : Int)), (2, vi (v : Int)), (3, vi (b : Int)), (4, vi ((ct (fun u => pre (bgn φ it L) L u b) a : Int) + 1)), (5, vi ((a : Int) + 1))]) rfl (by decide) rfl rfl dX10_laysShape_77 ?_
                            refine g_goto k (tgt := 55) dX10_laysShape_80 (by decide) ?_
                            rw [show (ct (fun u => pre (bgn φ it L) L u b) a : Int) + 1 = (ct (fun u => pre (bgn φ it L) L u b) (a + 1) : Nat) by rw [ct_y (p := (fun u => pre (bgn φ it L) L u b)) (q68.t (by omega))]; rfl]
                            exact ih55 (a + 1) (by omega) (by omega)
                    exact K55 _ 0 (Nat.zero_le _) (Nat.lt_succ_self _)
              exact K41 _ 0 _ h31 hm__2 hn__2 hu__2 hg__2 hsr__2 fr__2 (Nat.zero_le _) hr1 (Nat.lt_succ_self _)
        refine g_less (lv2 := [(0, .ref m), (1, vi (ct (fun i => (cah (bgn φ it L) L it) i < 0) it : Int)), (2, vi 0)]) ⟨rfl, (by rw [show ct (fun i => (cah (bgn φ it L) L it) i < 0) it = 0 from ct_0]; rfl), rfl, trivial⟩ ?_
        exact K31 _ 0 _ h6 hm__1 hn__1 hu__1 hg__1 hsr__1 fr__1 (Nat.zero_le _) (fun j hj => by rw [ct_0] at hj; exact absurd hj (Nat.not_lt_zero j)) (Nat.lt_succ_self _)
      · skip
        refine g_aload_n k rfl dX10_laysShape_14 ?_
        refine g_get k 10 36 (v := .ref (m + 17)) (C := RX10) (T := TX10) (N := 38) fl_X10_124 rfl wi_X10 (by decide) rfl hm__1 rfl dX10_laysShape_15 ?_
        refine g_iload_n k rfl dX10_laysShape_18 ?_
        refine g_iconst k dX10_laysShape_19 ?_
        refine g_iast k c hsr__1 (by omega) (by omega) (by decide) dX10_laysShape_20 (fun h20 eh20 => ?_)
        have hm__5 : h20 m = some (mo m (fu s 19 (L : Int))) := (congrFun eh20 _).trans ((hup_n (by omega)).trans hm__1)
        have hn__5 : h20 (m + 2) = some (ai G 86 N) := (congrFun eh20 _).trans ((hup_n (by omega)).trans hn__1)
        have hu__5 : h20 (m + 11) = some (ai G 64 S9) := (congrFun eh20 _).trans ((hup_n (by omega)).trans hu__1)
        have hg__5 : h20 (m + 15) = some (ai G 8 B9) := (congrFun eh20 _).trans ((hup_n (by omega)).trans hg__1)
        have hsr__5 : h20 (m + 17) = some (ai G 8 (fu R0 c 0)) := (congrFun eh20 _).trans hup_s
        have fr__5 : ∀ q : Nat, (q ≠ m ∧ q ≠ m + 11 ∧ q ≠ m + 15 ∧ q ≠ m + 17) → h20 q = h q := fun q hq => (congrFun eh20 q).trans ((hup_n (by omega)).trans (fr__1 q hq))
        refine g_iinc k (lv2 := [(0, .ref m), (1, vi ((c : Int) + 1))]) rfl (by decide) rfl rfl dX10_laysShape_21 ?_
        refine g_goto k (tgt := 6) dX10_laysShape_24 (by decide) ?_
        exact ih6 (c + 1) _ h20 hm__5 hn__5 hu__5 hg__5 hsr__5 fr__5 (by omega) (by omega)
  exact K6 _ 0 _ h1 hm_ hn_ hu_ hg_ hsr_ fr_ (Nat.zero_le _) (Nat.lt_succ_self _)

set_option maxHeartbeats 600000 in
set_option maxRecDepth 100000 in
theorem c_X10_shape {G : Gx} {h : Hp} {nx m : Nat} {it : Nat} {φ : Fs} {ps : List (Nat × Fs)} {im : Nat → Option (Nat × Fs)} {V : RV} {n : Nat} {T : Nat → Int} {ft : Nat} (hM : MS G h m it φ ps im V n T ft) (hS : Sm it φ) {L : Nat} (hL : isL φ it L) {p : Int} (rp : -2147483648 ≤ p ∧ p ≤ 2147483647) {P : Nat → Nat} (hP0 : hasI it p → Std P (cah (bgn φ it L) L it) it) : Con G yX10_shape cX10_shape 2 (some .int) 7 0 0 [.ref m, vi p] h nx (PI fun z h' => ((¬ hasI it p → z = -1) ∧ (hasI it p → z = (P p.toNat : Nat))) ∧ MT G h' m 0 it φ ps im V n T ft ∧ ∀ q : Nat, (q < m ∨ m + 17 < q) → h' q = h q) := by
  obtain ⟨th, s, ⟨hm, cq1, cq2, cq3, cq4, cq5, cq6, cq7, cq8, cq9, cq10, cq11, cq12, cq13, cq14, cq15, cq16, cq17⟩, hsc, hth⟩ := hM
  obtain ⟨z1, z6, z9, z14, z17, z15, z16⟩ := id hsc
  obtain ⟨N, hn, hR⟩ := id cq2
  obtain ⟨S, hu⟩ := id cq11
  obtain ⟨Bg, hg⟩ := id cq15
  obtain ⟨h8, h28, hsm⟩ := id hS
  obtain ⟨Sr, hsr⟩ := id cq17
  refine Con.of v_X10_shape.2.2.2.2.2.1 (Nat.le_of_ble_eq_true rfl) (lv := [(0, .ref m), (1, vi p)]) rfl (fun X k => ?_)
  generalize hQQ : QM G X nx 0 0 _ = QQ
  have fr0 : ∀ q : Nat, (q ≠ m ∧ q ≠ m + 11 ∧ q ≠ m + 15 ∧ q ≠ m + 17) → h q = h q := fun _ _ => rfl
  refine g_aload_n k rfl dX10_shape_0 ?_
  refine g_iconst k dX10_shape_1 ?_
  refine g_put k 10 0 (C := RX10) (T := TX10) (N := 38) fl_X10_1 rfl wi_X10 tyX10 tyX10_ok nmX10 (by decide) rfl rfl rfl rfl hm (Nat.le_of_ble_eq_true rfl) (fs2 := mol m (fu s 0 0)) rfl rfl dX10_shape_2 (fun h2 eh2 => ?_)
  have hm_ : h2 m = some (mo m (fu s 0 0)) := (congrFun eh2 _).trans hup_s
  have hn_ : h2 (m + 2) = some (ai G 86 N) := (congrFun eh2 _).trans ((hup_n (by omega)).trans hn)
  have hu_ : h2 (m + 11) = some (ai G 64 S) := (congrFun eh2 _).trans ((hup_n (by omega)).trans hu)
  have hg_ : h2 (m + 15) = some (ai G 8 Bg) := (congrFun eh2 _).trans ((hup_n (by omega)).trans hg)
  have hsr_ : h2 (m + 17) = some (ai G 8 Sr) := (congrFun eh2 _).trans ((hup_n (by omega)).trans hsr)
  have fr_ : ∀ q : Nat, (q ≠ m ∧ q ≠ m + 11 ∧ q ≠ m + 15 ∧ q ≠ m + 17) → h2 q = h q := fun q hq => (congrFun eh2 q).trans ((hup_n (by omega)).trans (fr0 q hq))
  refine g_aload_n k rfl dX10_shape_5 ?_
  refine g_iload_n k rfl dX10_shape_6 ?_
  refine g_cVi k 10 (As := [vi p]) v_X10_isItem rfl rfl hm_ ml_X10_231 (c_X10_isItem hm_ hn_ hR hS rp) (by omega) (by omega) rfl (Nat.le_of_ble_eq_true rfl) rfl dX10_shape_7 (fun r7 h7 p7 => ?_)
  obtain ⟨eh7, p7⟩ := p7
  have eh7 := eh7.symm; subst eh7
  have q7 := p7
  have q7r := q7.r
  refine g_if_ne k (tgt := 15) (by omega) dX10_shape_10 (by decide) (fun c10 => ?_) (fun c10 => ?_)
  · skip
    have hh := q7.t (by omega)
    have hP := hP0 hh
    have hi2 : 0 ≤ p ∧ p < it := hh
    refine g_aload_n k rfl dX10_shape_15 ?_
    refine g_cVv k 10 (As := []) v_X10_laysShape rfl rfl hm_ ml_X10_316 (c_X10_laysShape hm_ hn_ hR hS hu_ hg_ hL hP hsr_) (by omega) (by omega) rfl (Nat.le_of_ble_eq_true rfl) rfl dX10_shape_16 (fun h16 p16 => ?_)
    obtain ⟨⟨nm9, ⟨S9, nu9⟩, ⟨B9, ng9⟩, R9, nr9, hr9⟩, nfr9⟩ := p16
    have hm__1 : h16 m = some (mo m (fu (fu s 0 0) 19 (L : Int))) := nm9
    have hn__1 : h16 (m + 2) = some (ai G 86 N) := (nfr9 _ (by omega)).trans hn_
    have hu__1 : h16 (m + 11) = some (ai G 64 S9) := nu9
    have hg__1 : h16 (m + 15) = some (ai G 8 B9) := ng9
    have hsr__1 : h16 (m + 17) = some (ai G 8 R9) := nr9
    have fr__1 : ∀ q : Nat, (q ≠ m ∧ q ≠ m + 11 ∧ q ≠ m + 15 ∧ q ≠ m + 17) → h16 q = h q := fun q hq => (nfr9 q (by omega)).trans (fr_ q hq)
    refine g_aload_n k rfl dX10_shape_19 ?_
    refine g_get k 10 36 (v := .ref (m + 17)) (C := RX10) (T := TX10) (N := 38) fl_X10_124 rfl wi_X10 (by decide) rfl hm__1 rfl dX10_shape_20 ?_
    refine g_iload_n k rfl dX10_shape_23 ?_
    refine g_iald k (p.toNat) hsr__1 (by omega) (by omega) (by decide) dX10_shape_24 ?_
    rw [← hQQ]
    refine g_ireti k rfl dX10_shape_25 ?_
    exact ⟨⟨fun q => absurd hh q, fun _ => hr9 _ (by omega)⟩, ⟨_, ⟨hm__1, ((fr__1 (m + 1) (by omega)).trans cq1), ⟨N, hn__1, hR⟩, (by rw [fr__1 (m + 3) (by omega)]; exact cq3), (by rw [fr__1 (m + 4) (by omega)]; exact cq4), (by rw [fr__1 (m + 5) (by omega)]; exact cq5), (by rw [fr__1 (m + 6) (by omega)]; exact cq6), (by rw [fr__1 (m + 7) (by omega)]; exact cq7), (by rw [fr__1 (m + 8) (by omega)]; exact cq8), (by rw [fr__1 (m + 9) (by omega)]; exact cq9), (by rw [fr__1 (m + 10) (by omega)]; exact cq10), ⟨_, hu__1⟩, (by rw [fr__1 (m + 12) (by omega)]; exact cq12), (by rw [fr__1 (m + 13) (by omega)]; exact cq13), (by rw [fr__1 (m + 14) (by omega)]; exact cq14), ⟨_, hg__1⟩, (by rw [fr__1 (m + 16) (by omega)]; exact cq16), ⟨_, hsr__1⟩⟩, hsc, rfl⟩, (fun q hq => fr__1 q (by omega))⟩
  · skip
    refine g_iconst k dX10_shape_13 ?_
    rw [← hQQ]
    refine g_ireti k rfl dX10_shape_14 ?_
    exact ⟨⟨fun _ => rfl, fun q => absurd q (q7.f (by omega))⟩, ⟨_, ⟨hm_, ((fr_ (m + 1) (by omega)).trans cq1), ⟨N, hn_, hR⟩, (by rw [fr_ (m + 3) (by omega)]; exact cq3), (by rw [fr_ (m + 4) (by omega)]; exact cq4), (by rw [fr_ (m + 5) (by omega)]; exact cq5), (by rw [fr_ (m + 6) (by omega)]; exact cq6), (by rw [fr_ (m + 7) (by omega)]; exact cq7), (by rw [fr_ (m + 8) (by omega)]; exact cq8), (by rw [fr_ (m + 9) (by omega)]; exact cq9), (by rw [fr_ (m + 10) (by omega)]; exact cq10), ⟨_, hu_⟩, (by rw [fr_ (m + 12) (by omega)]; exact cq12), (by rw [fr_ (m + 13) (by omega)]; exact cq13), (by rw [fr_ (m + 14) (by omega)]; exact cq14), ⟨_, hg_⟩, (by rw [fr_ (m + 16) (by omega)]; exact cq16), ⟨_, hsr_⟩⟩, hsc, rfl⟩, (fun q hq => fr_ q (by omega))⟩

theorem sm1_snoc (f : Nat → Nat) : ∀ k x, sm1 f (k + 1) x = sm1 f k x + f (x + k)
  | 0, x => by show f x + 0 = 0 + f (x + 0); rw [Nat.add_zero, Nat.add_zero, Nat.zero_add]
  | k + 1, x => by
    rw [sm1, sm1_snoc f k (x + 1), sm1, show x + 1 + k = x + (k + 1) by omega]
    omega
def RwC (G : Gx) (k : Nat) : Prop := ∀ (h : Hp) (nx i x many : Nat), i + k = many → many ≤ 12 → x ≤ 13 → Con G yX10_rowsFrom cX10_rowsFrom 5 (some .int) (k + 1) 0 0 [vi (i : Int), vi (x : Int), vi (many : Int)] h nx (PI fun z h' => h' = h ∧ z = (rF k i x : Nat))
set_option maxHeartbeats 600000 in
set_option maxRecDepth 100000 in
theorem b_rowsFrom0 {G : Gx} : RwC G 0 := by
  intro h nx i x many hik h12 hx13
  refine Con.of v_X10_rowsFrom.2.2.2.2.1 (Nat.le_of_ble_eq_true rfl) (lv := [(0, vi (i : Int)), (1, vi (x : Int)), (2, vi (many : Int))]) rfl (fun X k => ?_)
  generalize hQQ : QM G X nx 0 0 _ = QQ
  refine g_iload_n k rfl dX10_rowsFrom_0 ?_
  refine g_iload_n k rfl dX10_rowsFrom_1 ?_
  refine g_icmp_ne k (tgt := 7) (by omega) (by omega) dX10_rowsFrom_2 (by decide) (fun c2 => ?_) (fun c2 => ?_)
  · skip
    omega
  · skip
    refine g_iconst k dX10_rowsFrom_5 ?_
    rw [← hQQ]
    refine g_ireti k rfl dX10_rowsFrom_6 ?_
    exact ⟨rfl, rfl⟩

set_option maxHeartbeats 600000 in
set_option maxRecDepth 100000 in
theorem b_rowsFrom {G : Gx} {k9 : Nat} (ih : RwC G k9) : RwC G (k9 + 1) := by
  intro h nx i x many hik h12 hx13
  refine Con.of v_X10_rowsFrom.2.2.2.2.1 (Nat.le_of_ble_eq_true rfl) (lv := [(0, vi (i : Int)), (1, vi (x : Int)), (2, vi (many : Int))]) rfl (fun X k => ?_)
  generalize hQQ : QM G X nx 0 0 _ = QQ
  refine g_iload_n k rfl dX10_rowsFrom_0 ?_
  refine g_iload_n k rfl dX10_rowsFrom_1 ?_
  refine g_icmp_ne k (tgt := 7) (by omega) (by omega) dX10_rowsFrom_2 (by decide) (fun c2 => ?_) (fun c2 => ?_)
  · skip
    refine g_iconst k dX10_rowsFrom_7 ?_
    refine g_istore_n k (lv2 := [(0, vi (i : Int)), (1, vi (x : Int)), (2, vi (many : Int)), (3, vi 0)]) (by decide) rfl rfl dX10_rowsFrom_8 ?_
    refine g_iload_n k rfl dX10_rowsFrom_9 ?_
    refine g_istore k (lv2 := [(0, vi (i : Int)), (1, vi (x : Int)), (2, vi (many : Int)), (3, vi 0), (4, vi (x : Int))]) (by decide) rfl rfl dX10_rowsFrom_10 ?_
    have K12 : ∀ (nz : Nat) (c : Nat) (hc : c ≤ i + 1 - x) (hmz : i + 1 - x - c < nz), Go G X 5 QQ 0 0 nx 12 [(0, vi (i : Int)), (1, vi (x : Int)), (2, vi (many : Int)), (3, vi (sm1 (rF k9 (i + 1)) c x : Int)), (4, vi ((x + c : Nat) : Int))] [] h := by
      intro nz
      induction nz with
      | zero => intro c hc hmz; exact absurd hmz (Nat.not_lt_zero _)
      | succ nz ih12 =>
        intro c hc hmz
        refine g_iload k rfl dX10_rowsFrom_12 ?_
        refine g_iload_n k rfl dX10_rowsFrom_14 ?_
        refine g_icmp_gt k (tgt := 36) (by omega) (by omega) dX10_rowsFrom_15 (by decide) (fun c15 => ?_) (fun c15 => ?_)
        · skip
          refine g_iload_n k rfl dX10_rowsFrom_36 ?_
          rw [← hQQ]
          refine g_ireti k rfl dX10_rowsFrom_37 ?_
          exact ⟨rfl, by rw [rF, show i + 1 - x = c by omega]⟩
        · skip
          refine g_iload_n k rfl dX10_rowsFrom_18 ?_
          refine g_iload_n k rfl dX10_rowsFrom_19 ?_
          refine g_iconst k dX10_rowsFrom_20 ?_
          refine g_iadd k dX10_rowsFrom_21 ?_
          refine g_iload k rfl dX10_rowsFrom_22 ?_
          refine g_iload_n k rfl dX10_rowsFrom_24 ?_
          refine g_cSi k (As := [vi ((i : Int) + 1), vi ((x + c : Nat) : Int), vi (many : Int)]) v_X10_rowsFrom ml_X10_319 (ih h nx (i + 1) (x + c) many (by omega) h12 (by omega)) (by omega) (by omega) rfl (Nat.le_of_ble_eq_true rfl) rfl dX10_rowsFrom_25 (fun r25 h25 p25 => ?_)
          obtain ⟨eh25, p25⟩ := p25
          have eh25 := eh25.symm; subst eh25
          subst p25
          refine g_iadd k dX10_rowsFrom_28 ?_
          rw [show (sm1 (rF k9 (i + 1)) c x : Int) + (rF k9 (i + 1) (x + c) : Int) = (sm1 (rF k9 (i + 1)) (c + 1) x : Int) from (by rw [sm1_snoc]; omega)]
          refine g_istore_n k (lv2 := [(0, vi (i : Int)), (1, vi (x : Int)), (2, vi (many : Int)), (3, vi (sm1 (rF k9 (i + 1)) (c + 1) x : Int)), (4, vi ((x + c : Nat) : Int))]) (by decide) rfl rfl dX10_rowsFrom_29 ?_
          refine g_iinc k (lv2 := [(0, vi (i : Int)), (1, vi (x : Int)), (2, vi (many : Int)), (3, vi (sm1 (rF k9 (i + 1)) (c + 1) x : Int)), (4, vi (((x + c : Nat) : Int) + 1))]) rfl (by decide) rfl rfl dX10_rowsFrom_30 ?_
          refine g_goto k (tgt := 12) dX10_rowsFrom_33 (by decide) ?_
          exact ih12 (c + 1) (by omega) (by omega)
    exact K12 _ 0 (Nat.zero_le _) (Nat.lt_succ_self _)
  · skip
    omega

theorem c_rowsFrom {G : Gx} : ∀ k, RwC G k
  | 0 => b_rowsFrom0
  | k + 1 => b_rowsFrom (c_rowsFrom k)
set_option maxHeartbeats 600000 in
set_option maxRecDepth 100000 in
theorem c_X10_shapes {G : Gx} {h : Hp} {nx m : Nat} {it : Nat} {φ : Fs} {ps : List (Nat × Fs)} {im : Nat → Option (Nat × Fs)} {V : RV} {n : Nat} {T : Nat → Int} {ft : Nat} (hM : MS G h m it φ ps im V n T ft) {p : Int} (rp : -2147483648 ≤ p ∧ p ≤ 2147483647) : Con G yX10_shapes cX10_shapes 2 (some .int) 14 0 0 [.ref m, vi p] h nx (PI fun z h' => (((0 ≤ p ∧ p ≤ 12) → z = (rF p.toNat 0 0 : Nat)) ∧ (¬ (0 ≤ p ∧ p ≤ 12) → z = -1)) ∧ MT G h' m 0 it φ ps im V n T ft ∧ ∀ q : Nat, (q < m ∨ m + 17 < q) → h' q = h q) := by
  obtain ⟨th, s, ⟨hm, cq1, cq2, cq3, cq4, cq5, cq6, cq7, cq8, cq9, cq10, cq11, cq12, cq13, cq14, cq15, cq16, cq17⟩, hsc, hth⟩ := hM
  obtain ⟨z1, z6, z9, z14, z17, z15, z16⟩ := id hsc
  refine Con.of v_X10_shapes.2.2.2.2.2.1 (Nat.le_of_ble_eq_true rfl) (lv := [(0, .ref m), (1, vi p)]) rfl (fun X k => ?_)
  generalize hQQ : QM G X nx 0 0 _ = QQ
  have fr0 : ∀ q : Nat, q ≠ m → h q = h q := fun _ _ => rfl
  refine g_aload_n k rfl dX10_shapes_0 ?_
  refine g_iconst k dX10_shapes_1 ?_
  refine g_put k 10 0 (C := RX10) (T := TX10) (N := 38) fl_X10_1 rfl wi_X10 tyX10 tyX10_ok nmX10 (by decide) rfl rfl rfl rfl hm (Nat.le_of_ble_eq_true rfl) (fs2 := mol m (fu s 0 0)) rfl rfl dX10_shapes_2 (fun h2 eh2 => ?_)
  have hm_ : h2 m = some (mo m (fu s 0 0)) := (congrFun eh2 _).trans hup_s
  have fr_ : ∀ q : Nat, q ≠ m → h2 q = h q := fun q hq => (congrFun eh2 q).trans ((hup_n (by omega)).trans (fr0 q hq))
  refine g_iload_n k rfl dX10_shapes_5 ?_
  refine g_iconst k dX10_shapes_6 ?_
  refine g_bipush k rfl dX10_shapes_7 ?_
  refine g_cSi k (As := [vi p, vi 0, vi 12]) v_X10_isIn ml_X10_224 (c_X10_isIn rp (by omega) (by omega)) (by omega) (by omega) rfl (Nat.le_of_ble_eq_true rfl) rfl dX10_shapes_9 (fun r9 h9 p9 => ?_)
  obtain ⟨eh9, p9⟩ := p9
  have eh9 := eh9.symm; subst eh9
  have q9 := p9
  have q9r := q9.r
  refine g_if_eq k (tgt := 24) (by omega) dX10_shapes_12 (by decide) (fun c12 => ?_) (fun c12 => ?_)
  · skip
    refine g_iconst k dX10_shapes_24 ?_
    rw [← hQQ]
    refine g_ireti k rfl dX10_shapes_25 ?_
    exact ⟨⟨fun q => absurd q (q9.f (by omega)), fun _ => rfl⟩, ⟨_, ⟨hm_, ((fr_ (m + 1) (by omega)).trans cq1), (by rw [fr_ (m + 2) (by omega)]; exact cq2), (by rw [fr_ (m + 3) (by omega)]; exact cq3), (by rw [fr_ (m + 4) (by omega)]; exact cq4), (by rw [fr_ (m + 5) (by omega)]; exact cq5), (by rw [fr_ (m + 6) (by omega)]; exact cq6), (by rw [fr_ (m + 7) (by omega)]; exact cq7), (by rw [fr_ (m + 8) (by omega)]; exact cq8), (by rw [fr_ (m + 9) (by omega)]; exact cq9), (by rw [fr_ (m + 10) (by omega)]; exact cq10), (by rw [fr_ (m + 11) (by omega)]; exact cq11), (by rw [fr_ (m + 12) (by omega)]; exact cq12), (by rw [fr_ (m + 13) (by omega)]; exact cq13), (by rw [fr_ (m + 14) (by omega)]; exact cq14), (by rw [fr_ (m + 15) (by omega)]; exact cq15), (by rw [fr_ (m + 16) (by omega)]; exact cq16), (by rw [fr_ (m + 17) (by omega)]; exact cq17)⟩, hsc, rfl⟩, (fun q hq => fr_ q (by omega))⟩
  · skip
    have hh := q9.t (by omega)
    obtain ⟨k1, ek1⟩ : ∃ k1 : Nat, p = k1 := ⟨p.toNat, by omega⟩
    rw [ek1]
    refine g_iconst k dX10_shapes_15 ?_
    refine g_iconst k dX10_shapes_16 ?_
    refine g_iload_n k rfl dX10_shapes_17 ?_
    refine g_cSi k (As := [vi 0, vi 0, vi (k1 : Int)]) v_X10_rowsFrom ml_X10_319 (c_rowsFrom k1 h2 nx 0 0 k1 (by omega) (by omega) (by omega)) (by omega) (by omega) rfl (Nat.le_of_ble_eq_true rfl) rfl dX10_shapes_18 (fun r18 h18 p18 => ?_)
    obtain ⟨eh18, p18⟩ := p18
    have eh18 := eh18.symm; subst eh18
    subst p18
    refine g_goto k (tgt := 25) dX10_shapes_21 (by decide) ?_
    rw [← hQQ]
    refine g_ireti k rfl dX10_shapes_25 ?_
    exact ⟨⟨fun _ => by rw [ek1, Int.toNat_natCast], fun q => absurd hh q⟩, ⟨_, ⟨hm_, ((fr_ (m + 1) (by omega)).trans cq1), (by rw [fr_ (m + 2) (by omega)]; exact cq2), (by rw [fr_ (m + 3) (by omega)]; exact cq3), (by rw [fr_ (m + 4) (by omega)]; exact cq4), (by rw [fr_ (m + 5) (by omega)]; exact cq5), (by rw [fr_ (m + 6) (by omega)]; exact cq6), (by rw [fr_ (m + 7) (by omega)]; exact cq7), (by rw [fr_ (m + 8) (by omega)]; exact cq8), (by rw [fr_ (m + 9) (by omega)]; exact cq9), (by rw [fr_ (m + 10) (by omega)]; exact cq10), (by rw [fr_ (m + 11) (by omega)]; exact cq11), (by rw [fr_ (m + 12) (by omega)]; exact cq12), (by rw [fr_ (m + 13) (by omega)]; exact cq13), (by rw [fr_ (m + 14) (by omega)]; exact cq14), (by rw [fr_ (m + 15) (by omega)]; exact cq15), (by rw [fr_ (m + 16) (by omega)]; exact cq16), (by rw [fr_ (m + 17) (by omega)]; exact cq17)⟩, hsc, rfl⟩, (fun q hq => fr_ q (by omega))⟩

set_option maxHeartbeats 600000 in
set_option maxRecDepth 100000 in
theorem c_X10_rank {G : Gx} {h : Hp} {nx m : Nat} {it : Nat} {φ : Fs} {ps : List (Nat × Fs)} {im : Nat → Option (Nat × Fs)} {V : RV} {n : Nat} {T : Nat → Int} {ft : Nat} (hM : MS G h m it φ ps im V n T ft) (hS : Sm it φ) {L : Nat} (hL : isL φ it L) {P : Nat → Nat} (hP : Std P (cah (bgn φ it L) L it) it) : Con G yX10_rank cX10_rank 5 (some .int) 14 0 0 [.ref m] h nx (PI fun z h' => z = (rkF it P it : Nat) ∧ MT G h' m 0 it φ ps im V n T ft ∧ ∀ q : Nat, (q < m ∨ m + 17 < q) → h' q = h q) := by
  obtain ⟨th, s, ⟨hm, cq1, cq2, cq3, cq4, cq5, cq6, cq7, cq8, cq9, cq10, cq11, cq12, cq13, cq14, cq15, cq16, cq17⟩, hsc, hth⟩ := hM
  obtain ⟨z1, z6, z9, z14, z17, z15, z16⟩ := id hsc
  obtain ⟨N, hn, hR⟩ := id cq2
  obtain ⟨S, hu⟩ := id cq11
  obtain ⟨Bg, hg⟩ := id cq15
  obtain ⟨h8, h28, hsm⟩ := id hS
  have hO := bgn_ok hS.1 hL
  obtain ⟨l1, l2, l3, l4⟩ := id hL
  have hL60 : 1 ≤ (L : Int) ∧ (L : Int) ≤ 60 := by omega
  obtain ⟨Sr, hsr⟩ := id cq17
  have hPl := Std.low hL60.1 (fun v hv => (hO.2 v hv).1) hP
  have hPm := hP.1
  refine Con.of v_X10_rank.2.2.2.2.2.1 (Nat.le_of_ble_eq_true rfl) (lv := [(0, .ref m)]) rfl (fun X k => ?_)
  generalize hQQ : QM G X nx 0 0 _ = QQ
  have fr0 : ∀ q : Nat, (q ≠ m ∧ q ≠ m + 11 ∧ q ≠ m + 15 ∧ q ≠ m + 17) → h q = h q := fun _ _ => rfl
  refine g_aload_n k rfl dX10_rank_0 ?_
  refine g_iconst k dX10_rank_1 ?_
  refine g_put k 10 0 (C := RX10) (T := TX10) (N := 38) fl_X10_1 rfl wi_X10 tyX10 tyX10_ok nmX10 (by decide) rfl rfl rfl rfl hm (Nat.le_of_ble_eq_true rfl) (fs2 := mol m (fu s 0 0)) rfl rfl dX10_rank_2 (fun h2 eh2 => ?_)
  have hm_ : h2 m = some (mo m (fu s 0 0)) := (congrFun eh2 _).trans hup_s
  have hn_ : h2 (m + 2) = some (ai G 86 N) := (congrFun eh2 _).trans ((hup_n (by omega)).trans hn)
  have hu_ : h2 (m + 11) = some (ai G 64 S) := (congrFun eh2 _).trans ((hup_n (by omega)).trans hu)
  have hg_ : h2 (m + 15) = some (ai G 8 Bg) := (congrFun eh2 _).trans ((hup_n (by omega)).trans hg)
  have hsr_ : h2 (m + 17) = some (ai G 8 Sr) := (congrFun eh2 _).trans ((hup_n (by omega)).trans hsr)
  have fr_ : ∀ q : Nat, (q ≠ m ∧ q ≠ m + 11 ∧ q ≠ m + 15 ∧ q ≠ m + 17) → h2 q = h q := fun q hq => (congrFun eh2 q).trans ((hup_n (by omega)).trans (fr0 q hq))
  refine g_aload_n k rfl dX10_rank_5 ?_
  refine g_cVv k 10 (As := []) v_X10_laysShape rfl rfl hm_ ml_X10_316 (c_X10_laysShape hm_ hn_ hR hS hu_ hg_ hL hP hsr_) (by omega) (by omega) rfl (Nat.le_of_ble_eq_true rfl) rfl dX10_rank_6 (fun h6 p6 => ?_)
  obtain ⟨⟨nm9, ⟨S9, nu9⟩, ⟨B9, ng9⟩, R9, nr9, hr9⟩, nfr9⟩ := p6
  have hm__1 : h6 m = some (mo m (fu (fu s 0 0) 19 (L : Int))) := nm9
  have hn__1 : h6 (m + 2) = some (ai G 86 N) := (nfr9 _ (by omega)).trans hn_
  have hu__1 : h6 (m + 11) = some (ai G 64 S9) := nu9
  have hg__1 : h6 (m + 15) = some (ai G 8 B9) := ng9
  have hsr__1 : h6 (m + 17) = some (ai G 8 R9) := nr9
  have fr__1 : ∀ q : Nat, (q ≠ m ∧ q ≠ m + 11 ∧ q ≠ m + 15 ∧ q ≠ m + 17) → h6 q = h q := fun q hq => (nfr9 q (by omega)).trans (fr_ q hq)
  refine g_iconst k dX10_rank_9 ?_
  refine g_istore_n k (lv2 := [(0, .ref m), (1, vi 0)]) (by decide) rfl rfl dX10_rank_10 ?_
  refine g_iconst k dX10_rank_11 ?_
  refine g_istore_n k (lv2 := [(0, .ref m), (1, vi 0), (2, vi 0)]) (by decide) rfl rfl dX10_rank_12 ?_
  refine g_iconst k dX10_rank_13 ?_
  refine g_istore_n k (lv2 := [(0, .ref m), (1, vi 0), (2, vi 0), (3, vi 0)]) (by decide) rfl rfl dX10_rank_14 ?_
  have K15 : ∀ (nz : Nat) (i : Nat) (lo : Nat) (hi : i ≤ it) (hlo : lo = (if i = 0 then 0 else P (i - 1))) (hmz : it - i < nz), Go G X 5 QQ 0 0 nx 15 [(0, .ref m), (1, vi (rkF it P i : Int)), (2, vi (lo : Int)), (3, vi (i : Int))] [] h6 := by
    intro nz
    induction nz with
    | zero => intro i lo hi hlo hmz; exact absurd hmz (Nat.not_lt_zero _)
    | succ nz ih15 =>
      intro i lo hi hlo hmz
      refine g_iload_n k rfl dX10_rank_15 ?_
      refine g_aload_n k rfl dX10_rank_16 ?_
      refine g_cVi k 10 (As := []) v_X10_items rfl rfl hm__1 ml_X10_228 (c_X10_items hm__1 hn__1 hR hS) (by omega) (by omega) rfl (Nat.le_of_ble_eq_true rfl) rfl dX10_rank_17 (fun r17 h17 p17 => ?_)
      obtain ⟨eh17, p17⟩ := p17
      have eh17 := eh17.symm; subst eh17
      subst p17
      refine g_icmp_ge k (tgt := 71) (by omega) (by omega) dX10_rank_20 (by decide) (fun c20 => ?_) (fun c20 => ?_)
      · skip
        refine g_iload_n k rfl dX10_rank_71 ?_
        rw [← hQQ]
        refine g_ireti k rfl dX10_rank_72 ?_
        have e : i = it := by omega
        exact ⟨(by rw [e]), ⟨_, ⟨hm__1, ((fr__1 (m + 1) (by omega)).trans cq1), ⟨N, hn__1, hR⟩, (by rw [fr__1 (m + 3) (by omega)]; exact cq3), (by rw [fr__1 (m + 4) (by omega)]; exact cq4), (by rw [fr__1 (m + 5) (by omega)]; exact cq5), (by rw [fr__1 (m + 6) (by omega)]; exact cq6), (by rw [fr__1 (m + 7) (by omega)]; exact cq7), (by rw [fr__1 (m + 8) (by omega)]; exact cq8), (by rw [fr__1 (m + 9) (by omega)]; exact cq9), (by rw [fr__1 (m + 10) (by omega)]; exact cq10), ⟨_, hu__1⟩, (by rw [fr__1 (m + 12) (by omega)]; exact cq12), (by rw [fr__1 (m + 13) (by omega)]; exact cq13), (by rw [fr__1 (m + 14) (by omega)]; exact cq14), ⟨_, hg__1⟩, (by rw [fr__1 (m + 16) (by omega)]; exact cq16), ⟨_, hsr__1⟩⟩, hsc, rfl⟩, (fun q hq => fr__1 q (by omega))⟩
      · skip
        have hPi := hPl i (by omega)
        have hlP : lo ≤ P i := by
          rw [hlo]
          split
          · exact Nat.zero_le _
          · exact hPm (i - 1) i (by omega) (by omega)
        refine g_iload_n k rfl dX10_rank_23 ?_
        refine g_istore k (lv2 := [(0, .ref m), (1, vi (rkF it P i : Int)), (2, vi (lo : Int)), (3, vi (i : Int)), (4, vi (lo : Int))]) (by decide) rfl rfl dX10_rank_24 ?_
        have K26 : ∀ (nz_1 : Nat) (c : Nat) (hc : c ≤ P i - lo) (hmz_1 : P i - lo - c < nz_1), Go G X 5 QQ 0 0 nx 26 [(0, .ref m), (1, vi ((rkF it P i + rkI it i lo c : Nat) : Int)), (2, vi (lo : Int)), (3, vi (i : Int)), (4, vi ((lo + c : Nat) : Int))] [] h6 := by
          intro nz_1
          induction nz_1 with
          | zero => intro c hc hmz_1; exact absurd hmz_1 (Nat.not_lt_zero _)
          | succ nz_1 ih26 =>
            intro c hc hmz_1
            refine g_iload k rfl dX10_rank_26 ?_
            refine g_aload_n k rfl dX10_rank_28 ?_
            refine g_get k 10 36 (v := .ref (m + 17)) (C := RX10) (T := TX10) (N := 38) fl_X10_124 rfl wi_X10 (by decide) rfl hm__1 rfl dX10_rank_29 ?_
            refine g_iload_n k rfl dX10_rank_32 ?_
            refine g_iald k i hsr__1 (by omega) (by omega) (by decide) dX10_rank_33 ?_
            rw [show R9 i = (P i : Int) from (hr9 _ (by omega))]
            refine g_icmp_ge k (tgt := 58) (by omega) (by omega) dX10_rank_34 (by decide) (fun c34 => ?_) (fun c34 => ?_)
            · skip
              have em : c = P i - lo := by omega
              rw [show rkF it P i + rkI it i lo c = rkF it P (i + 1) by rw [rkF, ← hlo, em]]
              refine g_aload_n k rfl dX10_rank_58 ?_
              refine g_get k 10 36 (v := .ref (m + 17)) (C := RX10) (T := TX10) (N := 38) fl_X10_124 rfl wi_X10 (by decide) rfl hm__1 rfl dX10_rank_59 ?_
              refine g_iload_n k rfl dX10_rank_62 ?_
              refine g_iald k i hsr__1 (by omega) (by omega) (by decide) dX10_rank_63 ?_
              rw [show R9 i = (P i : Int) from (hr9 _ (by omega))]
              refine g_istore_n k (lv2 := [(0, .ref m), (1, vi (rkF it P (i + 1) : Int)), (2, vi (P i : Int)), (3, vi (i : Int)), (4, vi ((lo + c : Nat) : Int))]) (by decide) rfl rfl dX10_rank_64 ?_
              refine g_iinc k (lv2 := [(0, .ref m), (1, vi (rkF it P (i + 1) : Int)), (2, vi (P i : Int)), (3, vi ((i : Int) + 1)), (4, vi ((lo + c : Nat) : Int))]) rfl (by decide) rfl rfl dX10_rank_65 ?_
              refine g_goto k (tgt := 15) dX10_rank_68 (by decide) ?_
              refine g_less (lv2 := [(0, .ref m), (1, vi (rkF it P (i + 1) : Int)), (2, vi (P i : Int)), (3, vi ((i : Int) + 1))]) ⟨rfl, rfl, rfl, rfl, trivial⟩ ?_
              exact ih15 (i + 1) (P i) (by omega) (by rw [if_neg (by omega)]; rfl) (by omega)
            · skip
              refine g_iload_n k rfl dX10_rank_37 ?_
              refine g_iload_n k rfl dX10_rank_38 ?_
              refine g_iconst k dX10_rank_39 ?_
              refine g_iadd k dX10_rank_40 ?_
              refine g_iload k rfl dX10_rank_41 ?_
              refine g_aload_n k rfl dX10_rank_43 ?_
              refine g_cVi k 10 (As := []) v_X10_items rfl rfl hm__1 ml_X10_228 (c_X10_items hm__1 hn__1 hR hS) (by omega) (by omega) rfl (Nat.le_of_ble_eq_true rfl) rfl dX10_rank_44 (fun r44 h44 p44 => ?_)
              obtain ⟨eh44, p44⟩ := p44
              have eh44 := eh44.symm; subst eh44
              subst p44
              refine g_cSi k (As := [vi ((i : Int) + 1), vi ((lo + c : Nat) : Int), vi (it : Int)]) v_X10_rowsFrom ml_X10_319 (c_rowsFrom (it - (i + 1)) h6 nx (i + 1) (lo + c) it (by omega) (by omega) (by omega)) (by omega) (by omega) rfl (Nat.le_of_ble_eq_true rfl) rfl dX10_rank_47 (fun r47 h47 p47 => ?_)
              obtain ⟨eh47, p47⟩ := p47
              have eh47 := eh47.symm; subst eh47
              subst p47
              refine g_iadd k dX10_rank_50 ?_
              rw [show ((rkF it P i + rkI it i lo c : Nat) : Int) + (rF (it - (i + 1)) (i + 1) (lo + c) : Int) = ((rkF it P i + rkI it i lo (c + 1) : Nat) : Int) from (by rw [rkI]; omega)]
              refine g_istore_n k (lv2 := [(0, .ref m), (1, vi ((rkF it P i + rkI it i lo (c + 1) : Nat) : Int)), (2, vi (lo : Int)), (3, vi (i : Int)), (4, vi ((lo + c : Nat) : Int))]) (by decide) rfl rfl dX10_rank_51 ?_
              refine g_iinc k (lv2 := [(0, .ref m), (1, vi ((rkF it P i + rkI it i lo (c + 1) : Nat) : Int)), (2, vi (lo : Int)), (3, vi (i : Int)), (4, vi (((lo + c : Nat) : Int) + 1))]) rfl (by decide) rfl rfl dX10_rank_52 ?_
              refine g_goto k (tgt := 26) dX10_rank_55 (by decide) ?_
              exact ih26 (c + 1) (by omega) (by omega)
        exact K26 _ 0 (Nat.zero_le _) (Nat.lt_succ_self _)
  exact K15 _ 0 0 (Nat.zero_le _) rfl (Nat.lt_succ_self _)

theorem fgt_len {φ : Fs} {k : Nat} (h : k < φ.length) : (fgt φ k).length = φ.length - 1 := List.length_eraseIdx_of_lt h
theorem mkI_in (s : Nat → Nat) (a : Nat) : ∀ m q, q ∈ mkI s a m → q.2.1 = a ∧ a < q.2.2 ∧ q.2.2 < a + 1 + m ∧ q.1 = (if a < s q.2.2 then 0 else 1)
  | 0, q, h => by cases h
  | m + 1, q, h => by
    rw [mkI] at h
    rcases List.mem_append.mp h with g | g
    · obtain ⟨h1, h2, h3, h4⟩ := mkI_in s a m q g
      exact ⟨h1, h2, by omega, h4⟩
    · rw [List.mem_singleton] at g
      subst g
      exact ⟨rfl, by dsimp only; omega, by dsimp only; omega, rfl⟩
theorem mkO_in (s : Nat → Nat) (n : Nat) : ∀ a q, a ≤ n → q ∈ mkO s n a → q.2.1 < a ∧ q.2.1 < q.2.2 ∧ q.2.2 < n ∧ q.1 = (if q.2.1 < s q.2.2 then 0 else 1)
  | 0, q, _, h => by cases h
  | a + 1, q, ha, h => by
    rw [mkO] at h
    rcases List.mem_append.mp h with g | g
    · obtain ⟨h1, h2, h3, h4⟩ := mkO_in s n a q (by omega) g
      exact ⟨by omega, h2, h3, h4⟩
    · obtain ⟨h1, h2, h3, h4⟩ := mkI_in s a _ q g
      exact ⟨by omega, by omega, by omega, by rw [h1]; exact h4⟩
theorem fs_mem {φ : Fs} {i : Nat} (h : i < φ.length) : (kd φ i, fi φ i, se φ i) ∈ φ := by
  have e : (kd φ i, fi φ i, se φ i) = φ[i] := by unfold kd fi se; rw [List.getD_eq_getElem?_getD, List.getElem?_eq_getElem h, Option.getD_some]
  rw [e]
  exact List.getElem_mem h
theorem ix_no {φ : Fs} {x y : Nat} (h : ∀ q, q ∈ φ → ¬ ((q.2.1 = x ∧ q.2.2 = y) ∨ (q.2.1 = y ∧ q.2.2 = x))) : ix φ (x : Int) (y : Int) = -1 := by
  refine sr_miss (fun j hj q => h _ (fs_mem hj) ?_)
  unfold pm at q
  dsimp only
  omega
theorem mk_part {s : Nat → Nat} {n : Nat} (hn : n ≤ 8) : ∀ a, a ≤ n → Sm n (mkO s n a) ∧ ∀ m, a + m < n → Sm n (mkO s n a ++ mkI s a m)
  | 0, _ => by
    have h0 : Sm n (mkO s n 0) := ⟨hn, Nat.zero_le _, fun i hi => absurd hi (Nat.not_lt_zero i)⟩
    refine ⟨h0, fun m => ?_⟩
    induction m with
    | zero => intro _; exact h0
    | succ m ih =>
      intro hm
      have := ih (by omega)
      rw [mkI, ← List.append_assoc]
      refine this.add (by split <;> omega) (by omega) (by omega) (by omega) (ix_no (fun q hq => ?_))
      rcases List.mem_append.mp hq with g | g
      · cases g
      · obtain ⟨h1, h2, h3, h4⟩ := mkI_in s 0 m q g
        omega
  | a + 1, ha => by
    have ih := (mk_part (s := s) hn a (by omega)).2
    have h0 : Sm n (mkO s n (a + 1)) := by
      rw [mkO]
      by_cases e : a + (n - (a + 1)) < n
      · exact ih _ e
      · omega
    refine ⟨h0, fun m => ?_⟩
    induction m with
    | zero => intro _; rw [mkI, List.append_nil]; exact h0
    | succ m ih2 =>
      intro hm
      have := ih2 (by omega)
      rw [mkI, ← List.append_assoc]
      refine this.add (by split <;> omega) (by omega) (by omega) (by omega) (ix_no (fun q hq => ?_))
      rcases List.mem_append.mp hq with g | g
      · obtain ⟨h1, h2, h3, h4⟩ := mkO_in s n (a + 1) q ha g
        omega
      · obtain ⟨h1, h2, h3, h4⟩ := mkI_in s (a + 1) m q g
        omega
theorem mk_Sm {s : Nat → Nat} {n : Nat} (hn : n ≤ 8) : Sm n (mkO s n n) := (mk_part hn n (Nat.le_refl n)).1
/-- places for a shape: spans of some length -/
theorem shp_X {s : Nat → Nat} {n : Nat} (hs : ∀ i, i < n → s i ≤ i) (hm : ∀ i j, i < j → j < n → s i ≤ s j) : ∀ b, b ≤ n → ∃ (L : Int) (X : Nat → Int), 1 ≤ L ∧ (∀ i j, i < j → j < b → X i < X j) ∧ (∀ i j, i < j → j < b → i < s j → X i + L < X j) ∧ ∀ i j, i < j → j < b → s j ≤ i → X j < X i + L
  | 0, _ => ⟨1, fun _ => 0, Int.le_refl _, fun i j _ h => absurd h (Nat.not_lt_zero j), fun i j _ h => absurd h (Nat.not_lt_zero j), fun i j _ h => absurd h (Nat.not_lt_zero j)⟩
  | b + 1, hb => by
    obtain ⟨L, X, h1, h2, h3, h4⟩ := shp_X hs hm b (by omega)
    have hsb := hs b (by omega)
    refine ⟨2 * L, fun i => if i = b then (if b = 0 then 0 else if s b = 0 then 2 * X (b - 1) + 1 else (if X (b - 1) < X (s b - 1) + L then 2 * (X (s b - 1) + L) + 1 else 2 * X (b - 1) + 1)) else 2 * X i, by omega, ?_, ?_, ?_⟩
    · intro i j hij hj
      dsimp only
      rw [if_neg (show ¬ i = b by omega)]
      by_cases e : j = b
      · rw [if_pos e, if_neg (by omega)]
        have g1 : X i ≤ X (b - 1) := by
          by_cases e2 : i = b - 1
          · rw [e2]; exact Int.le_refl _
          · exact Int.le_of_lt (h2 i (b - 1) (by omega) (by omega))
        split
        · omega
        · split <;> omega
      · rw [if_neg e]
        have := h2 i j hij (by omega)
        omega
    · intro i j hij hj his
      dsimp only
      rw [if_neg (show ¬ i = b by omega)]
      by_cases e : j = b
      · rw [e] at his
        rw [if_pos e, if_neg (by omega), if_neg (by omega)]
        have g1 : X i ≤ X (s b - 1) := by
          by_cases e2 : i = s b - 1
          · rw [e2]; exact Int.le_refl _
          · exact Int.le_of_lt (h2 i (s b - 1) (by omega) (by omega))
        split <;> omega
      · rw [if_neg e]
        have := h3 i j hij (by omega) his
        omega
    · intro i j hij hj his
      dsimp only
      rw [if_neg (show ¬ i = b by omega)]
      by_cases e : j = b
      · rw [e] at his
        rw [if_pos e, if_neg (by omega)]
        have g1 : X (b - 1) < X i + L := by
          by_cases e2 : i = b - 1
          · rw [e2]; omega
          · exact h4 i (b - 1) (by omega) (by omega) (Nat.le_trans (hm (b - 1) b (by omega) (by omega)) his)
        split
        · omega
        · have g2 : X (s b - 1) < X i := h2 (s b - 1) i (by omega) (by omega)
          split <;> omega
      · rw [if_neg e]
        have := h4 i j hij (by omega) his
        omega
/-- spans by which all hold: GOOD -/
theorem Gd_X {E : Nat → Nat → Nat → Prop} {L : Int} {X : Nat → Int} (hL : 1 ≤ L) (h0 : ∀ u v, E 0 u v → X u + L ≤ X v) (h1 : ∀ u v, E 1 u v → X u < X v + L) : Gd E := by
  have key : ∀ n u v b, wk E n u v b → X u + L * (b : Int) ≤ X v + (L - 1) * ((n : Int) - b) := by
    intro n
    induction n with
    | zero =>
      intro u v b h
      obtain ⟨rfl, rfl⟩ := h
      simp
    | succ n ih =>
      intro u v b h
      obtain ⟨x, ⟨e, c, hc, g⟩ | ⟨e, g⟩⟩ := h
      · have g1 := ih x v c g
        have g2 := h0 u x e
        rw [hc, show ((c + 1 : Nat) : Int) = (c : Int) + 1 by omega, show ((n + 1 : Nat) : Int) - ((c : Int) + 1) = (n : Int) - c by omega, Int.mul_add]
        omega
      · have g1 := ih x v b g
        have g2 := h1 u x e
        rw [show ((n + 1 : Nat) : Int) - (b : Int) = ((n : Int) - b) + 1 by omega, Int.mul_add]
        omega
  intro n u b hn hw
  have h := key n u u b hw
  have hb := wk_le hw
  refine Nat.not_le.mp (fun q => ?_)
  have e1 : (L - 1) * ((n : Int) - b) ≤ (L - 1) * (b : Int) := Int.mul_le_mul_of_nonneg_left (by omega) (by omega)
  have e2 : (L - 1) * (b : Int) = L * (b : Int) - b := by rw [Int.sub_mul]; omega
  omega
theorem mk_Good {s : Nat → Nat} {n : Nat} (hs : ∀ i, i < n → s i ≤ i) (hm : ∀ i j, i < j → j < n → s i ≤ s j) : Good (mkO s n n) := by
  obtain ⟨L, X, h1, h2, h3, h4⟩ := shp_X hs hm n (Nat.le_refl n)
  refine Gd_X (L := L) (X := X) h1 ?_ ?_
  · rintro u v ⟨i, g1, g2, g3, g4⟩
    obtain ⟨m1, m2, m3, m4⟩ := mkO_in s n n _ (Nat.le_refl n) (fs_mem g1)
    dsimp only at m1 m2 m3 m4
    rcases g4 with ⟨r1, r2⟩ | ⟨r0, -⟩
    · rw [g3, r1, r2] at m4
      rw [r1, r2] at m2
      rw [r2] at m3
      by_cases e : u < s v
      · exact Int.le_of_lt (h3 u v m2 m3 e)
      · rw [if_neg e] at m4; omega
    · omega
  · rintro u v ⟨i, g1, g2, g3, g4⟩
    obtain ⟨m1, m2, m3, m4⟩ := mkO_in s n n _ (Nat.le_refl n) (fs_mem g1)
    dsimp only at m1 m2 m3 m4
    rcases g4 with ⟨r1, r2⟩ | ⟨-, r1, r2⟩
    · rw [r1, r2] at m2
      rw [r2] at m3
      have := h2 u v m2 m3
      omega
    · rw [g3, r1, r2] at m4
      rw [r1, r2] at m2
      rw [r1] at m3
      by_cases e : v < s u
      · rw [if_pos e] at m4; omega
      · exact h4 v u m2 m3 (by omega)
theorem spS_mono {n r : Nat} (i : Nat) : (spS n r i).2 ≤ (spS n r (i + 1)).2 := (spX_b (n := n) (i := i) (i + 1) (spS n r i).1 (spS n r i).2 (by have := (spS_b (n := n) (r := r) i).1; omega)).2.1
theorem spl_le {n r i : Nat} : spl n r i ≤ i := by have := (spS_b (n := n) (r := r) (i + 1)).1; unfold spl; omega
theorem spl_mono {n r i : Nat} : ∀ j, i < j → spl n r i ≤ spl n r j
  | 0, h => absurd h (Nat.not_lt_zero i)
  | j + 1, h => by
    have h1 : spl n r j ≤ spl n r (j + 1) := spS_mono (j + 1)
    by_cases e : i = j
    · rw [e]; exact h1
    · exact Nat.le_trans (spl_mono j (by omega)) h1
theorem mk_good {n r : Nat} : Good (mkO (spl n r) n n) := mk_Good (fun i _ => spl_le) (fun i j h _ => spl_mono j h)
