/-! the reference: ways -/
def alA (x : Nat) : Nat → List (Nat × Nat)
  | 0 => []
  | m + 1 => alA x m ++ [(x, x + 1 + m)]
def alP (it : Nat) : Nat → List (Nat × Nat)
  | 0 => []
  | n + 1 => alP it n ++ alA n (it - (n + 1))
noncomputable def op (φ : Fs) (q : Nat × Nat) : Bool := decide (ix φ (q.1 : Int) (q.2 : Int) = -1)
theorem prA_f (φ : Fs) (x : Nat) : ∀ m, prA φ x m = (alA x m).filter (op φ)
  | 0 => rfl
  | m + 1 => by
    rw [prA, alA, List.filter_append, ← prA_f φ x m]
    congr 1
    by_cases e : ix φ (x : Int) ((x + 1 + m : Nat) : Int) = -1
    · rw [if_pos e, List.filter_cons, if_pos (by unfold op; exact decide_eq_true e)]; rfl
    · rw [if_neg e, List.filter_cons, if_neg (by unfold op; rw [decide_eq_true_iff]; exact e)]; rfl
theorem prs_f (φ : Fs) (it : Nat) : ∀ n, prs φ it n = (alP it n).filter (op φ)
  | 0 => rfl
  | n + 1 => by rw [prs, alP, List.filter_append, ← prs_f φ it n, prA_f]
def trv (it : Nat) : Nat → Nat → Nat → List (Nat × Nat)
  | 0, _, _ => []
  | k + 1, a, b => if it ≤ a + 1 then [] else (a, b) :: trv it k (if b + 1 < it then a else a + 1) (if b + 1 < it then b + 1 else a + 2)
theorem trv_all : ∀ it, it < 9 → trv it 71 0 1 = alP it it := by decide +kernel
theorem trv_n {it k a b : Nat} (h : it ≤ a + 1) : trv it k a b = [] := by
  cases k with
  | zero => rfl
  | succ k => rw [trv, if_pos h]
def goW (c N : Nat) : Nat := if 999 < c then c else if c + N ≤ 999 then c + N else 1000
theorem goW_0 {c : Nat} : goW c 0 = c := by unfold goW; split; rfl; rw [if_pos (by omega)]; rfl
theorem goW_add {c x y : Nat} : goW (goW c x) y = goW c (x + y) := by
  unfold goW
  by_cases h : 999 < c
  · rw [if_pos h, if_pos h, if_pos h]
  · rw [if_neg h, if_neg h]
    by_cases h2 : c + x ≤ 999
    · rw [if_pos h2, if_neg (by omega), Nat.add_assoc]
    · rw [if_neg h2, if_pos (by decide), if_neg (by omega)]
theorem goW_le {c N : Nat} (h : c ≤ 1000) : goW c N ≤ 1000 := by unfold goW; split; omega; split <;> omega
theorem ix_app {ψ : Fs} {k x y p q : Nat} : ix (ψ ++ [(k, x, y)]) (p : Int) (q : Int) = -1 ↔ ix ψ (p : Int) (q : Int) = -1 ∧ ¬ ((x = p ∧ y = q) ∨ (x = q ∧ y = p)) := by
  have hl : (ψ ++ [(k, x, y)]).length = ψ.length + 1 := by simp
  constructor
  · intro h
    have hn := ix_none h
    refine ⟨sr_miss (fun j hj => ?_), fun g => ?_⟩
    · have := hn j (by omega)
      unfold pm at this ⊢
      rw [(kd_app hj).2.1, (kd_app hj).2.2] at this
      exact this
    · refine hn ψ.length (by omega) ?_
      unfold pm
      rw [kd_last.2.1, kd_last.2.2]
      dsimp only
      omega
  · rintro ⟨h1, h2⟩
    have hn := ix_none h1
    refine sr_miss (fun j hj => ?_)
    rw [hl] at hj
    by_cases e : j < ψ.length
    · have := hn j e
      unfold pm at this ⊢
      rw [(kd_app e).2.1, (kd_app e).2.2]
      exact this
    · rw [show j = ψ.length by omega]
      unfold pm
      rw [kd_last.2.1, kd_last.2.2]
      dsimp only
      omega
theorem oj_is {j a b : Nat} (h : j < 3) : (oj j a b = (0, a, b) ∧ j = 0) ∨ (oj j a b = (0, b, a) ∧ j = 1) ∨ (oj j a b = (1, a, b) ∧ j = 2) := by
  unfold oj
  rcases (show j = 0 ∨ j = 1 ∨ j = 2 by omega) with rfl | rfl | rfl
  · exact Or.inl ⟨rfl, rfl⟩
  · exact Or.inr (Or.inl ⟨rfl, rfl⟩)
  · exact Or.inr (Or.inr ⟨rfl, rfl⟩)
def Agr (φ ψ : Fs) (a b : Nat) : Prop := ∀ a' b', (a < a' ∨ (a' = a ∧ b ≤ b')) → a' < b' → (ix ψ (a' : Int) (b' : Int) = -1 ↔ ix φ (a' : Int) (b' : Int) = -1)
theorem EF_appE {ψ : Fs} {k x y : Nat} (hk : k ≤ 1) : EF (ψ ++ [(k, x, y)]) 0 = Ea2 (EF ψ 0) k x y := by
  funext k2 u v
  exact propext (EF_app hk k2 u v)
def GoC (G : Gx) (m it : Nat) (φ : Fs) (k : Nat) : Prop := ∀ (h : Hp) (nx a b c : Nat) (ψ : Fs) (s N Nt S : Nat → Int), h m = some (mo m (fu s 18 (c : Int))) → h (m + 2) = some (ai G 86 N) → Rw N it φ → h (m + 8) = some (ai G 86 Nt) → Rw Nt it ψ → Sm it ψ → Good ψ → h (m + 11) = some (ai G 64 S) → c ≤ 1000 → a < b → b ≤ 10 → (a + 1 < it → b < it ∧ 8 * (8 - a) + (8 - b) ≤ k) → Agr φ ψ a b → Con G yX10_goesOn cX10_goesOn 7 none (7 + k) 0 0 [.ref m, vi (a : Int), vi (b : Int)] h nx (PV fun h' => (h' m = some (mo m (fu s 18 ((goW c (Nw ((trv it k a b).filter (op φ)) (EF ψ 0)) : Nat) : Int))) ∧ aN G it ψ (h' (m + 8)) ∧ aI G 64 (h' (m + 11))) ∧ ∀ q : Nat, (q ≠ m ∧ q ≠ m + 8 ∧ q ≠ m + 11) → h' q = h q)
set_option maxHeartbeats 600000 in
set_option maxRecDepth 100000 in
theorem b_goesOn0 {G : Gx} {m it : Nat} {φ : Fs} (hS : Sm it φ) : GoC G m it φ 0 := by
  intro h nx a b c ψ s N Nt S hm hn hR ht hRt hSt hGt hu hc1 hab hb10 hfu hag
  obtain ⟨h8, h28, hsm⟩ := id hS
  refine Con.of v_X10_goesOn.2.2.2.2.2.1 (Nat.le_of_ble_eq_true rfl) (lv := [(0, .ref m), (1, vi (a : Int)), (2, vi (b : Int))]) rfl (fun X k => ?_)
  generalize hQQ : QM G X nx 0 0 _ = QQ
  have fr0 : ∀ q : Nat, (q ≠ m ∧ q ≠ m + 8 ∧ q ≠ m + 11) → h q = h q := fun _ _ => rfl
  refine g_aload_n k rfl dX10_goesOn_0 ?_
  refine g_get k 10 33 (v := vi (c : Int)) (C := RX10) (T := TX10) (N := 38) fl_X10_279 rfl wi_X10 (by decide) rfl hm rfl dX10_goesOn_1 ?_
  refine g_sipush k rfl dX10_goesOn_4 ?_
  refine g_icmp_le k (tgt := 11) (by omega) (by omega) dX10_goesOn_7 (by decide) (fun c7 => ?_) (fun c7 => ?_)
  · skip
    refine g_iload_n k rfl dX10_goesOn_11 ?_
    refine g_aload_n k rfl dX10_goesOn_12 ?_
    refine g_cVi k 10 (As := []) v_X10_items rfl rfl hm ml_X10_228 (c_X10_items hm hn hR hS) (by omega) (by omega) rfl (Nat.le_of_ble_eq_true rfl) rfl dX10_goesOn_13 (fun r13 h13 p13 => ?_)
    obtain ⟨eh13, p13⟩ := p13
    have eh13 := eh13.symm; subst eh13
    subst p13
    refine g_iconst k dX10_goesOn_16 ?_
    refine g_isub k dX10_goesOn_17 ?_
    refine g_icmp_lt k (tgt := 32) (by omega) (by omega) dX10_goesOn_18 (by decide) (fun c18 => ?_) (fun c18 => ?_)
    · skip
      omega
    · skip
      refine g_aload_n k rfl dX10_goesOn_21 ?_
      refine g_dup k rfl dX10_goesOn_22 ?_
      refine g_get k 10 33 (v := vi (c : Int)) (C := RX10) (T := TX10) (N := 38) fl_X10_279 rfl wi_X10 (by decide) rfl hm rfl dX10_goesOn_23 ?_
      refine g_iconst k dX10_goesOn_26 ?_
      refine g_iadd k dX10_goesOn_27 ?_
      refine g_put k 10 33 (C := RX10) (T := TX10) (N := 38) fl_X10_279 rfl wi_X10 tyX10 tyX10_ok nmX10 (by decide) rfl rfl rfl rfl hm (Nat.le_of_ble_eq_true rfl) (fs2 := mol m (fu s 18 ((c : Int) + 1))) rfl rfl dX10_goesOn_28 (fun h28 eh28 => ?_)
      have hm_ : h28 m = some (mo m (fu s 18 ((c : Int) + 1))) := (congrFun eh28 _).trans hup_s
      have hn_ : h28 (m + 2) = some (ai G 86 N) := (congrFun eh28 _).trans ((hup_n (by omega)).trans hn)
      have ht_ : h28 (m + 8) = some (ai G 86 Nt) := (congrFun eh28 _).trans ((hup_n (by omega)).trans ht)
      have hu_ : h28 (m + 11) = some (ai G 64 S) := (congrFun eh28 _).trans ((hup_n (by omega)).trans hu)
      have fr_ : ∀ q : Nat, (q ≠ m ∧ q ≠ m + 8 ∧ q ≠ m + 11) → h28 q = h q := fun q hq => (congrFun eh28 q).trans ((hup_n (by omega)).trans (fr0 q hq))
      rw [← hQQ]
      refine g_retv k rfl dX10_goesOn_31 ?_
      have e : goW c (Nw ((trv it 0 a b).filter (op φ)) (EF ψ 0)) = c + 1 := by rw [trv_n (by omega)]; show goW c 1 = c + 1; unfold goW; rw [if_neg (by omega)]; split <;> omega
      rw [e]
      exact ⟨⟨hm_, ⟨Nt, ht_, hRt⟩, ⟨_, hu_⟩⟩, fr_⟩
  · skip
    rw [← hQQ]
    refine g_retv k rfl dX10_goesOn_10 ?_
    have e : goW c (Nw ((trv it 0 a b).filter (op φ)) (EF ψ 0)) = c := by unfold goW; rw [if_pos (by omega)]
    rw [e]
    exact ⟨⟨hm, ⟨Nt, ht, hRt⟩, ⟨_, hu⟩⟩, fr0⟩

set_option maxHeartbeats 1600000 in
set_option maxRecDepth 100000 in
theorem b_goesOn {G : Gx} {m it : Nat} {φ : Fs} (hS : Sm it φ) {k9 : Nat} (ih : GoC G m it φ k9) : GoC G m it φ (k9 + 1) := by
  intro h nx a b c ψ s N Nt S hm hn hR ht hRt hSt hGt hu hc1 hab hb10 hfu hag
  obtain ⟨h8, h28, hsm⟩ := id hS
  refine Con.of v_X10_goesOn.2.2.2.2.2.1 (Nat.le_of_ble_eq_true rfl) (lv := [(0, .ref m), (1, vi (a : Int)), (2, vi (b : Int))]) rfl (fun X k => ?_)
  generalize hQQ : QM G X nx 0 0 _ = QQ
  have fr0 : ∀ q : Nat, (q ≠ m ∧ q ≠ m + 8 ∧ q ≠ m + 11) → h q = h q := fun _ _ => rfl
  refine g_aload_n k rfl dX10_goesOn_0 ?_
  refine g_get k 10 33 (v := vi (c : Int)) (C := RX10) (T := TX10) (N := 38) fl_X10_279 rfl wi_X10 (by decide) rfl hm rfl dX10_goesOn_1 ?_
  refine g_sipush k rfl dX10_goesOn_4 ?_
  refine g_icmp_le k (tgt := 11) (by omega) (by omega) dX10_goesOn_7 (by decide) (fun c7 => ?_) (fun c7 => ?_)
  · skip
    refine g_iload_n k rfl dX10_goesOn_11 ?_
    refine g_aload_n k rfl dX10_goesOn_12 ?_
    refine g_cVi k 10 (As := []) v_X10_items rfl rfl hm ml_X10_228 (c_X10_items hm hn hR hS) (by omega) (by omega) rfl (Nat.le_of_ble_eq_true rfl) rfl dX10_goesOn_13 (fun r13 h13 p13 => ?_)
    obtain ⟨eh13, p13⟩ := p13
    have eh13 := eh13.symm; subst eh13
    subst p13
    refine g_iconst k dX10_goesOn_16 ?_
    refine g_isub k dX10_goesOn_17 ?_
    refine g_icmp_lt k (tgt := 32) (by omega) (by omega) dX10_goesOn_18 (by decide) (fun c18 => ?_) (fun c18 => ?_)
    · skip
      have hfu2 := hfu (by omega)
      have hib := @ix_b ψ (a : Int) (b : Int)
      have hl0 := hSt.2.1
      have K51 : ∀ (nb : Nat) (hnb : nb = (if b + 1 < it then b + 1 else a + 2)), Go G X 7 QQ 0 0 nx 51 [(0, .ref m), (1, vi (a : Int)), (2, vi (b : Int))] [vi (nb : Int)] h := by
        intro nb hnb
        refine g_istore_n k (lv2 := [(0, .ref m), (1, vi (a : Int)), (2, vi (b : Int)), (3, vi (nb : Int))]) (by decide) rfl rfl dX10_goesOn_51 ?_
        have K69 : ∀ (na : Nat) (hna : na = (if b + 1 < it then a else a + 1)), Go G X 7 QQ 0 0 nx 69 [(0, .ref m), (1, vi (a : Int)), (2, vi (b : Int)), (3, vi (nb : Int))] [vi (na : Int)] h := by
          intro na hna
          have hnn : (na = a ∧ nb = b + 1 ∧ b + 1 < it) ∨ (na = a + 1 ∧ nb = a + 2 ∧ it ≤ b + 1) := by rw [hna, hnb]; by_cases e : b + 1 < it; (rw [if_pos e, if_pos e]; omega); (rw [if_neg e, if_neg e]; omega)
          have htv : trv it (k9 + 1) a b = (a, b) :: trv it k9 na nb := by rw [trv, if_neg (by omega), ← hna, ← hnb]
          refine g_istore k (lv2 := [(0, .ref m), (1, vi (a : Int)), (2, vi (b : Int)), (3, vi (nb : Int)), (4, vi (na : Int))]) (by decide) rfl rfl dX10_goesOn_69 ?_
          refine g_aload_n k rfl dX10_goesOn_71 ?_
          refine g_get k 10 16 (v := .ref (m + 8)) (C := RX10) (T := TX10) (N := 38) fl_X10_92 rfl wi_X10 (by decide) rfl hm rfl dX10_goesOn_72 ?_
          refine g_iload_n k rfl dX10_goesOn_75 ?_
          refine g_iload_n k rfl dX10_goesOn_76 ?_
          refine g_cSi k (As := [.ref (m + 8), vi (a : Int), vi (b : Int)]) v_X10_factOf ml_X10_142 (c_X10_factOf ht hRt hSt (p := (a : Int)) (p2 := (b : Int)) (by omega) (by omega)) (by omega) (by omega) rfl (Nat.le_of_ble_eq_true rfl) rfl dX10_goesOn_77 (fun r77 h77 p77 => ?_)
          obtain ⟨eh77, p77⟩ := p77
          have eh77 := eh77.symm; subst eh77
          subst p77
          refine g_iconst k dX10_goesOn_80 ?_
          refine g_icmp_eq k (tgt := 92) (by omega) (by omega) dX10_goesOn_81 (by decide) (fun c81 => ?_) (fun c81 => ?_)
          · skip
            have hixo : ix ψ (a : Int) (b : Int) = -1 := c81
            have hop : op φ (a, b) = true := by unfold op; rw [decide_eq_true_iff]; exact (hag a b (Or.inr ⟨rfl, Nat.le_refl b⟩) hab).mp hixo
            have hl9 := len28 hSt (x := a) (y := b) (by omega) (by omega) (by omega) hixo
            refine g_iconst k dX10_goesOn_92 ?_
            refine g_istore k (lv2 := [(0, .ref m), (1, vi (a : Int)), (2, vi (b : Int)), (3, vi (nb : Int)), (4, vi (na : Int)), (5, vi 0)]) (by decide) rfl rfl dX10_goesOn_93 ?_
            have K95 : ∀ (nz_2 : Nat) (j : Nat) (c2 : Nat) (N9 : Nat → Int) (S9 : Nat → Int) (h95 : Hp) (hm_ : h95 m = some (mo m (fu s 18 (c2 : Int)))) (hn_ : h95 (m + 2) = some (ai G 86 N)) (ht_ : h95 (m + 8) = some (ai G 86 N9)) (hu_ : h95 (m + 11) = some (ai G 64 S9)) (fr_ : ∀ q : Nat, (q ≠ m ∧ q ≠ m + 8 ∧ q ≠ m + 11) → h95 q = h q) (hj : j ≤ 3) (hc2 : c2 = goW c (Nj ((trv it k9 na nb).filter (op φ)) (EF ψ 0) a b j)) (hR9 : Rw N9 it ψ) (hmz_2 : 3 - j < nz_2), Go G X 7 QQ 0 0 nx 95 [(0, .ref m), (1, vi (a : Int)), (2, vi (b : Int)), (3, vi (nb : Int)), (4, vi (na : Int)), (5, vi (j : Int))] [] h95 := by
              intro nz_2
              induction nz_2 with
              | zero => intro j c2 N9 S9 h95 hm_ hn_ ht_ hu_ fr_ hj hc2 hR9 hmz_2; exact absurd hmz_2 (Nat.not_lt_zero _)
              | succ nz_2 ih95 =>
                intro j c2 N9 S9 h95 hm_ hn_ ht_ hu_ fr_ hj hc2 hR9 hmz_2
                refine g_iload k rfl dX10_goesOn_95 ?_
                refine g_iconst k dX10_goesOn_97 ?_
                refine g_icmp_ge k (tgt := 174) (by omega) (by omega) dX10_goesOn_98 (by decide) (fun c98 => ?_) (fun c98 => ?_)
                · skip
                  rw [← hQQ]
                  refine g_retv k rfl dX10_goesOn_174 ?_
                  rw [htv, List.filter_cons, if_pos hop, ← Nj_3, ← show j = 3 by omega, ← hc2]
                  exact ⟨⟨hm_, ⟨N9, ht_, hR9⟩, ⟨_, hu_⟩⟩, fr_⟩
                · skip
                  have hoj := oj_is (a := a) (b := b) (show j < 3 by omega)
                  have K112 : ∀ (xz : Nat) (hxz : xz = (oj j a b).2.1), Go G X 7 QQ 0 0 nx 112 [(0, .ref m), (1, vi (a : Int)), (2, vi (b : Int)), (3, vi (nb : Int)), (4, vi (na : Int)), (5, vi (j : Int))] [vi (xz : Int)] h95 := by
                    intro xz hxz
                    have hxr : xz ≤ a + b := by rcases hoj with ⟨e, ej⟩ | ⟨e, ej⟩ | ⟨e, ej⟩ <;> (rw [e] at hxz; dsimp only at hxz; omega)
                    refine g_istore k (lv2 := [(0, .ref m), (1, vi (a : Int)), (2, vi (b : Int)), (3, vi (nb : Int)), (4, vi (na : Int)), (5, vi (j : Int)), (6, vi (xz : Int))]) (by decide) rfl rfl dX10_goesOn_112 ?_
                    refine g_aload_n k rfl dX10_goesOn_114 ?_
                    refine g_get k 10 16 (v := .ref (m + 8)) (C := RX10) (T := TX10) (N := 38) fl_X10_92 rfl wi_X10 (by decide) rfl hm_ rfl dX10_goesOn_115 ?_
                    have K129 : ∀ (kz : Nat) (hkz : kz = (oj j a b).1), Go G X 7 QQ 0 0 nx 129 [(0, .ref m), (1, vi (a : Int)), (2, vi (b : Int)), (3, vi (nb : Int)), (4, vi (na : Int)), (5, vi (j : Int)), (6, vi (xz : Int))] [vi (kz : Int), .ref (m + 8)] h95 := by
                      intro kz hkz
                      refine g_iload k rfl dX10_goesOn_129 ?_
                      refine g_iload_n k rfl dX10_goesOn_131 ?_
                      refine g_iload_n k rfl dX10_goesOn_132 ?_
                      refine g_iadd k dX10_goesOn_133 ?_
                      refine g_iload k rfl dX10_goesOn_134 ?_
                      refine g_isub k dX10_goesOn_136 ?_
                      rw [show ((a : Int) + (b : Int)) - (xz : Int) = ((a + b - xz : Nat) : Int) from (by omega)]
                      refine g_cSv k (As := [.ref (m + 8), vi (kz : Int), vi (xz : Int), vi ((a + b - xz : Nat) : Int)]) v_X10_tells ml_X10_153 (c_X10_tells ht_ hR9 hSt hl9 (k1 := kz) (x := xz) (y := a + b - xz)) (by omega) (by omega) rfl (Nat.le_of_ble_eq_true rfl) rfl dX10_goesOn_137 (fun h137 p137 => ?_)
                      obtain ⟨⟨N10, nt10, hR10⟩, nfr10⟩ := p137
                      have hm__1 : h137 m = some (mo m (fu s 18 (c2 : Int))) := (nfr10 _ (by omega)).trans hm_
                      have hn__1 : h137 (m + 2) = some (ai G 86 N) := (nfr10 _ (by omega)).trans hn_
                      have ht__1 : h137 (m + 8) = some (ai G 86 N10) := nt10
                      have hu__1 : h137 (m + 11) = some (ai G 64 S9) := (nfr10 _ (by omega)).trans hu_
                      have fr__1 : ∀ q : Nat, (q ≠ m ∧ q ≠ m + 8 ∧ q ≠ m + 11) → h137 q = h q := fun q hq => (nfr10 q (by omega)).trans (fr_ q hq)
                      have eo : oj j a b = (kz, xz, a + b - xz) := by rcases hoj with ⟨e, ej⟩ | ⟨e, ej⟩ | ⟨e, ej⟩ <;> (rw [e] at hkz hxz ⊢; dsimp only at hkz hxz; rw [hkz, hxz]; congr 2; omega)
                      have hkk : kz ≤ 1 := by rcases hoj with ⟨e, ej⟩ | ⟨e, ej⟩ | ⟨e, ej⟩ <;> (rw [e] at hkz; dsimp only at hkz; omega)
                      have hxx : (xz = a ∨ xz = b) := by rcases hoj with ⟨e, ej⟩ | ⟨e, ej⟩ | ⟨e, ej⟩ <;> (rw [e] at hxz; dsimp only at hxz; omega)
                      have hix10 : ix ψ (xz : Int) ((a + b - xz : Nat) : Int) = -1 := by rcases hxx with e | e; (rw [e, show a + b - a = b by omega]; exact hixo); (rw [e, show a + b - b = a by omega, ix_sym]; exact hixo)
                      have hS10 := hSt.add hkk (show xz < it by omega) (show a + b - xz < it by omega) (by omega) hix10
                      have hag3 : Agr φ (ψ ++ [(kz, xz, a + b - xz)]) na nb := fun a' b' g1 g2 => by rw [ix_app]; have g3 := hag a' b' (by omega) g2; exact ⟨fun q => g3.mp q.1, fun q => ⟨g3.mpr q, by omega⟩⟩
                      refine g_aload_n k rfl dX10_goesOn_140 ?_
                      refine g_aload_n k rfl dX10_goesOn_141 ?_
                      refine g_get k 10 16 (v := .ref (m + 8)) (C := RX10) (T := TX10) (N := 38) fl_X10_92 rfl wi_X10 (by decide) rfl hm__1 rfl dX10_goesOn_142 ?_
                      refine g_cVi k 10 (As := [.ref (m + 8)]) v_X10_isGood rfl rfl hm__1 ml_X10_266 (c_X10_isGood hm__1 ht__1 hR10 hS10 (by omega) hu__1) (by omega) (by omega) rfl (Nat.le_of_ble_eq_true rfl) rfl dX10_goesOn_145 (fun r145 h145 p145 => ?_)
                      obtain ⟨hz, ⟨S10, nu10⟩, nfr11⟩ := p145
                      have hm__2 : h145 m = some (mo m (fu s 18 (c2 : Int))) := (nfr11 _ (by omega)).trans hm__1
                      have hn__2 : h145 (m + 2) = some (ai G 86 N) := (nfr11 _ (by omega)).trans hn__1
                      have ht__2 : h145 (m + 8) = some (ai G 86 N10) := (nfr11 _ (by omega)).trans ht__1
                      have hu__2 : h145 (m + 11) = some (ai G 64 S10) := nu10
                      have fr__2 : ∀ q : Nat, (q ≠ m ∧ q ≠ m + 8 ∧ q ≠ m + 11) → h145 q = h q := fun q hq => (nfr11 q (by omega)).trans (fr__1 q hq)
                      have hzr := hz.r
                      refine g_if_eq k (tgt := 158) (by omega) dX10_goesOn_148 (by decide) (fun c148 => ?_) (fun c148 => ?_)
                      · skip
                        have hg10 := hz.f (by omega)
                        refine g_aload_n k rfl dX10_goesOn_158 ?_
                        refine g_get k 10 16 (v := .ref (m + 8)) (C := RX10) (T := TX10) (N := 38) fl_X10_92 rfl wi_X10 (by decide) rfl hm__2 rfl dX10_goesOn_159 ?_
                        refine g_iconst k dX10_goesOn_162 ?_
                        refine g_dup2 k rfl rfl dX10_goesOn_163 ?_
                        refine g_iald k 1 ht__2 (by omega) (by omega) (by decide) dX10_goesOn_164 ?_
                        rw [show N10 1 = ((ψ ++ [(kz, xz, a + b - xz)]).length : Int) from (by first | exact hR12.n | exact hR10.n)]
                        refine g_iconst k dX10_goesOn_165 ?_
                        refine g_isub k dX10_goesOn_166 ?_
                        refine g_iast k 1 ht__2 (by omega) (by omega) (by decide) dX10_goesOn_167 (fun h167 eh167 => ?_)
                        have hm__3 : h167 m = some (mo m (fu s 18 (c2 : Int))) := (congrFun eh167 _).trans ((hup_n (by omega)).trans hm__2)
                        have hn__3 : h167 (m + 2) = some (ai G 86 N) := (congrFun eh167 _).trans ((hup_n (by omega)).trans hn__2)
                        have ht__3 : h167 (m + 8) = some (ai G 86 (fu N10 1 (((ψ ++ [(kz, xz, a + b - xz)]).length : Int) - 1))) := (congrFun eh167 _).trans hup_s
                        have hu__3 : h167 (m + 11) = some (ai G 64 S10) := (congrFun eh167 _).trans ((hup_n (by omega)).trans hu__2)
                        have fr__3 : ∀ q : Nat, (q ≠ m ∧ q ≠ m + 8 ∧ q ≠ m + 11) → h167 q = h q := fun q hq => (congrFun eh167 q).trans ((hup_n (by omega)).trans (fr__2 q hq))
                        refine g_iinc k (lv2 := [(0, .ref m), (1, vi (a : Int)), (2, vi (b : Int)), (3, vi (nb : Int)), (4, vi (na : Int)), (5, vi ((j : Int) + 1)), (6, vi (xz : Int))]) rfl (by decide) rfl rfl dX10_goesOn_168 ?_
                        refine g_goto k (tgt := 95) dX10_goesOn_171 (by decide) ?_
                        refine g_less (lv2 := [(0, .ref m), (1, vi (a : Int)), (2, vi (b : Int)), (3, vi (nb : Int)), (4, vi (na : Int)), (5, vi ((j : Int) + 1))]) ⟨rfl, rfl, rfl, rfl, rfl, rfl, trivial⟩ ?_
                        exact ih95 (j + 1) c2 _ _ h167 hm__3 hn__3 ht__3 hu__3 fr__3 (by omega) (by rw [Nj, eo, No_n (fun q => hg10 ((Good_app hkk).mpr q)), Nat.add_zero]; exact hc2) (hR10.pop (by simp)) (by omega)
                      · skip
                        have hg10 := hz.t (by omega)
                        have hc3 : c2 ≤ 1000 := by rw [hc2]; exact goW_le hc1
                        refine g_aload_n k rfl dX10_goesOn_151 ?_
                        refine g_iload k rfl dX10_goesOn_152 ?_
                        refine g_iload_n k rfl dX10_goesOn_154 ?_
                        refine g_cVv k 10 (As := [vi (na : Int), vi (nb : Int)]) v_X10_goesOn rfl rfl hm__2 ml_X10_282 (ih h145 nx na nb c2 (ψ ++ [(kz, xz, a + b - xz)]) s N N10 S10 hm__2 hn__2 hR ht__2 hR10 hS10 hg10 hu__2 hc3 (by omega) (by omega) (fun _ => by omega) hag3) (by omega) (by omega) rfl (Nat.le_of_ble_eq_true rfl) rfl dX10_goesOn_155 (fun h155 p155 => ?_)
                        obtain ⟨⟨nm12, ⟨N12, nt12, hR12⟩, ⟨S12, nu12⟩⟩, nfr12⟩ := p155
                        have hm__4 : h155 m = some (mo m (fu s 18 ((goW c2 (Nw ((trv it k9 na nb).filter (op φ)) (EF (ψ ++ [(kz, xz, a + b - xz)]) 0)) : Nat) : Int))) := nm12
                        have hn__4 : h155 (m + 2) = some (ai G 86 N) := (nfr12 _ (by omega)).trans hn__2
                        have ht__4 : h155 (m + 8) = some (ai G 86 N12) := nt12
                        have hu__4 : h155 (m + 11) = some (ai G 64 S12) := nu12
                        have fr__4 : ∀ q : Nat, (q ≠ m ∧ q ≠ m + 8 ∧ q ≠ m + 11) → h155 q = h q := fun q hq => (nfr12 q (by omega)).trans (fr__2 q hq)
                        refine g_aload_n k rfl dX10_goesOn_158 ?_
                        refine g_get k 10 16 (v := .ref (m + 8)) (C := RX10) (T := TX10) (N := 38) fl_X10_92 rfl wi_X10 (by decide) rfl hm__4 rfl dX10_goesOn_159 ?_
                        refine g_iconst k dX10_goesOn_162 ?_
                        refine g_dup2 k rfl rfl dX10_goesOn_163 ?_
                        refine g_iald k 1 ht__4 (by omega) (by omega) (by decide) dX10_goesOn_164 ?_
                        rw [show N12 1 = ((ψ ++ [(kz, xz, a + b - xz)]).length : Int) from (by first | exact hR12.n | exact hR10.n)]
                        refine g_iconst k dX10_goesOn_165 ?_
                        refine g_isub k dX10_goesOn_166 ?_
                        refine g_iast k 1 ht__4 (by omega) (by omega) (by decide) dX10_goesOn_167 (fun h167_1 eh167_1 => ?_)
                        have hm__5 : h167_1 m = some (mo m (fu s 18 ((goW c2 (Nw ((trv it k9 na nb).filter (op φ)) (EF (ψ ++ [(kz, xz, a + b - xz)]) 0)) : Nat) : Int))) := (congrFun eh167_1 _).trans ((hup_n (by omega)).trans hm__4)
                        have hn__5 : h167_1 (m + 2) = some (ai G 86 N) := (congrFun eh167_1 _).trans ((hup_n (by omega)).trans hn__4)
                        have ht__5 : h167_1 (m + 8) = some (ai G 86 (fu N12 1 (((ψ ++ [(kz, xz, a + b - xz)]).length : Int) - 1))) := (congrFun eh167_1 _).trans hup_s
                        have hu__5 : h167_1 (m + 11) = some (ai G 64 S12) := (congrFun eh167_1 _).trans ((hup_n (by omega)).trans hu__4)
                        have fr__5 : ∀ q : Nat, (q ≠ m ∧ q ≠ m + 8 ∧ q ≠ m + 11) → h167_1 q = h q := fun q hq => (congrFun eh167_1 q).trans ((hup_n (by omega)).trans (fr__4 q hq))
                        refine g_iinc k (lv2 := [(0, .ref m), (1, vi (a : Int)), (2, vi (b : Int)), (3, vi (nb : Int)), (4, vi (na : Int)), (5, vi ((j : Int) + 1)), (6, vi (xz : Int))]) rfl (by decide) rfl rfl dX10_goesOn_168 ?_
                        refine g_goto k (tgt := 95) dX10_goesOn_171 (by decide) ?_
                        refine g_less (lv2 := [(0, .ref m), (1, vi (a : Int)), (2, vi (b : Int)), (3, vi (nb : Int)), (4, vi (na : Int)), (5, vi ((j : Int) + 1))]) ⟨rfl, rfl, rfl, rfl, rfl, rfl, trivial⟩ ?_
                        exact ih95 (j + 1) (goW c2 (Nw ((trv it k9 na nb).filter (op φ)) (EF (ψ ++ [(kz, xz, a + b - xz)]) 0))) _ _ h167_1 hm__5 hn__5 ht__5 hu__5 fr__5 (by omega) (by rw [Nj, eo, No_y ((Good_app hkk).mp hg10), ← goW_add, ← hc2, EF_appE hkk]) (hR12.pop (by simp)) (by omega)
                    refine g_iload k rfl dX10_goesOn_118 ?_
                    refine g_iconst k dX10_goesOn_120 ?_
                    refine g_icmp_ne k (tgt := 128) (by omega) (by omega) dX10_goesOn_121 (by decide) (fun c121 => ?_) (fun c121 => ?_)
                    · skip
                      refine g_iconst k dX10_goesOn_128 ?_
                      exact K129 0 (by rcases hoj with ⟨e, ej⟩ | ⟨e, ej⟩ | ⟨e, ej⟩; (rw [e]); (rw [e]); omega)
                    · skip
                      refine g_iconst k dX10_goesOn_124 ?_
                      refine g_goto k (tgt := 129) dX10_goesOn_125 (by decide) ?_
                      exact K129 1 (by rcases hoj with ⟨e, ej⟩ | ⟨e, ej⟩ | ⟨e, ej⟩; omega; omega; (rw [e]))
                  refine g_iload k rfl dX10_goesOn_101 ?_
                  refine g_iconst k dX10_goesOn_103 ?_
                  refine g_icmp_ne k (tgt := 111) (by omega) (by omega) dX10_goesOn_104 (by decide) (fun c104 => ?_) (fun c104 => ?_)
                  · skip
                    refine g_iload_n k rfl dX10_goesOn_111 ?_
                    exact K112 a (by rcases hoj with ⟨e, ej⟩ | ⟨e, ej⟩ | ⟨e, ej⟩; (rw [e]); omega; (rw [e]))
                  · skip
                    refine g_iload_n k rfl dX10_goesOn_107 ?_
                    refine g_goto k (tgt := 112) dX10_goesOn_108 (by decide) ?_
                    exact K112 b (by rcases hoj with ⟨e, ej⟩ | ⟨e, ej⟩ | ⟨e, ej⟩; omega; (rw [e]); omega)
            exact K95 _ 0 c _ _ h hm hn ht hu fr0 (Nat.zero_le _) (by rw [Nj, goW_0]) hRt (Nat.lt_succ_self _)
          · skip
            have hnop : op φ (a, b) = false := by unfold op; rw [decide_eq_false_iff_not]; exact fun q => c81 ((hag a b (Or.inr ⟨rfl, Nat.le_refl b⟩) hab).mpr q)
            have hag2 : Agr φ ψ na nb := fun a' b' g1 g2 => hag a' b' (by omega) g2
            refine g_aload_n k rfl dX10_goesOn_84 ?_
            refine g_iload k rfl dX10_goesOn_85 ?_
            refine g_iload_n k rfl dX10_goesOn_87 ?_
            refine g_cVv k 10 (As := [vi (na : Int), vi (nb : Int)]) v_X10_goesOn rfl rfl hm ml_X10_282 (ih h nx na nb c ψ s N Nt S hm hn hR ht hRt hSt hGt hu hc1 (by omega) (by omega) (fun _ => by omega) hag2) (by omega) (by omega) rfl (Nat.le_of_ble_eq_true rfl) rfl dX10_goesOn_88 (fun h88 p88 => ?_)
            obtain ⟨⟨nm8, ⟨N8, nt8, hR8⟩, ⟨S8, nu8⟩⟩, nfr8⟩ := p88
            have hm__6 : h88 m = some (mo m (fu s 18 ((goW c (Nw ((trv it k9 na nb).filter (op φ)) (EF ψ 0)) : Nat) : Int))) := nm8
            have hn__6 : h88 (m + 2) = some (ai G 86 N) := (nfr8 _ (by omega)).trans hn
            have ht__6 : h88 (m + 8) = some (ai G 86 N8) := nt8
            have hu__6 : h88 (m + 11) = some (ai G 64 S8) := nu8
            have fr__6 : ∀ q : Nat, (q ≠ m ∧ q ≠ m + 8 ∧ q ≠ m + 11) → h88 q = h q := fun q hq => (nfr8 q (by omega)).trans (fr0 q hq)
            rw [← hQQ]
            refine g_retv k rfl dX10_goesOn_91 ?_
            rw [htv, List.filter_cons, if_neg (by rw [hnop]; decide)]
            exact ⟨⟨hm__6, ⟨N8, ht__6, hR8⟩, ⟨_, hu__6⟩⟩, fr__6⟩
        refine g_iload_n k rfl dX10_goesOn_52 ?_
        refine g_iconst k dX10_goesOn_53 ?_
        refine g_iadd k dX10_goesOn_54 ?_
        refine g_aload_n k rfl dX10_goesOn_55 ?_
        refine g_cVi k 10 (As := []) v_X10_items rfl rfl hm ml_X10_228 (c_X10_items hm hn hR hS) (by omega) (by omega) rfl (Nat.le_of_ble_eq_true rfl) rfl dX10_goesOn_56 (fun r56 h56 p56 => ?_)
        obtain ⟨eh56, p56⟩ := p56
        have eh56 := eh56.symm; subst eh56
        subst p56
        refine g_icmp_ge k (tgt := 66) (by omega) (by omega) dX10_goesOn_59 (by decide) (fun c59 => ?_) (fun c59 => ?_)
        · skip
          refine g_iload_n k rfl dX10_goesOn_66 ?_
          refine g_iconst k dX10_goesOn_67 ?_
          refine g_iadd k dX10_goesOn_68 ?_
          exact K69 (a + 1) (by rw [if_neg (by omega)])
        · skip
          refine g_iload_n k rfl dX10_goesOn_62 ?_
          refine g_goto k (tgt := 69) dX10_goesOn_63 (by decide) ?_
          exact K69 a (by rw [if_pos (by omega)])
      refine g_iload_n k rfl dX10_goesOn_32 ?_
      refine g_iconst k dX10_goesOn_33 ?_
      refine g_iadd k dX10_goesOn_34 ?_
      refine g_aload_n k rfl dX10_goesOn_35 ?_
      refine g_cVi k 10 (As := []) v_X10_items rfl rfl hm ml_X10_228 (c_X10_items hm hn hR hS) (by omega) (by omega) rfl (Nat.le_of_ble_eq_true rfl) rfl dX10_goesOn_36 (fun r36 h36 p36 => ?_)
      obtain ⟨eh36, p36⟩ := p36
      have eh36 := eh36.symm; subst eh36
      subst p36
      refine g_icmp_ge k (tgt := 48) (by omega) (by omega) dX10_goesOn_39 (by decide) (fun c39 => ?_) (fun c39 => ?_)
      · skip
        refine g_iload_n k rfl dX10_goesOn_48 ?_
        refine g_iconst k dX10_goesOn_49 ?_
        refine g_iadd k dX10_goesOn_50 ?_
        exact K51 (a + 2) (by rw [if_neg (by omega)])
      · skip
        refine g_iload_n k rfl dX10_goesOn_42 ?_
        refine g_iconst k dX10_goesOn_43 ?_
        refine g_iadd k dX10_goesOn_44 ?_
        refine g_goto k (tgt := 51) dX10_goesOn_45 (by decide) ?_
        exact K51 (b + 1) (by rw [if_pos (by omega)])
    · skip
      refine g_aload_n k rfl dX10_goesOn_21 ?_
      refine g_dup k rfl dX10_goesOn_22 ?_
      refine g_get k 10 33 (v := vi (c : Int)) (C := RX10) (T := TX10) (N := 38) fl_X10_279 rfl wi_X10 (by decide) rfl hm rfl dX10_goesOn_23 ?_
      refine g_iconst k dX10_goesOn_26 ?_
      refine g_iadd k dX10_goesOn_27 ?_
      refine g_put k 10 33 (C := RX10) (T := TX10) (N := 38) fl_X10_279 rfl wi_X10 tyX10 tyX10_ok nmX10 (by decide) rfl rfl rfl rfl hm (Nat.le_of_ble_eq_true rfl) (fs2 := mol m (fu s 18 ((c : Int) + 1))) rfl rfl dX10_goesOn_28 (fun h28 eh28 => ?_)
      have hm__7 : h28 m = some (mo m (fu s 18 ((c : Int) + 1))) := (congrFun eh28 _).trans hup_s
      have hn__7 : h28 (m + 2) = some (ai G 86 N) := (congrFun eh28 _).trans ((hup_n (by omega)).trans hn)
      have ht__7 : h28 (m + 8) = some (ai G 86 Nt) := (congrFun eh28 _).trans ((hup_n (by omega)).trans ht)
      have hu__7 : h28 (m + 11) = some (ai G 64 S) := (congrFun eh28 _).trans ((hup_n (by omega)).trans hu)
      have fr__7 : ∀ q : Nat, (q ≠ m ∧ q ≠ m + 8 ∧ q ≠ m + 11) → h28 q = h q := fun q hq => (congrFun eh28 q).trans ((hup_n (by omega)).trans (fr0 q hq))
      rw [← hQQ]
      refine g_retv k rfl dX10_goesOn_31 ?_
      have e : goW c (Nw ((trv it (k9 + 1) a b).filter (op φ)) (EF ψ 0)) = c + 1 := by rw [trv_n (by omega)]; show goW c 1 = c + 1; unfold goW; rw [if_neg (by omega)]; split <;> omega
      rw [e]
      exact ⟨⟨hm__7, ⟨Nt, ht__7, hRt⟩, ⟨_, hu__7⟩⟩, fr__7⟩
  · skip
    rw [← hQQ]
    refine g_retv k rfl dX10_goesOn_10 ?_
    have e : goW c (Nw ((trv it (k9 + 1) a b).filter (op φ)) (EF ψ 0)) = c := by unfold goW; rw [if_pos (by omega)]
    rw [e]
    exact ⟨⟨hm, ⟨Nt, ht, hRt⟩, ⟨_, hu⟩⟩, fr0⟩

theorem c_goesOn {G : Gx} {m it : Nat} {φ : Fs} (hS : Sm it φ) : ∀ k, GoC G m it φ k
  | 0 => b_goesOn0 hS
  | k + 1 => b_goesOn hS (c_goesOn hS k)
set_option maxHeartbeats 600000 in
set_option maxRecDepth 100000 in
theorem c_X10_ways {G : Gx} {h : Hp} {nx m : Nat} {it : Nat} {φ : Fs} {ps : List (Nat × Fs)} {im : Nat → Option (Nat × Fs)} {V : RV} {n : Nat} {T : Nat → Int} {ft : Nat} (hM : MS G h m it φ ps im V n T ft) (hS : Sm it φ) (hG : Good φ) : Con G yX10_ways cX10_ways 1 (some .int) 80 0 0 [.ref m] h nx (PI fun z h' => z = ((if wysF φ it ≤ 999 then wysF φ it else 999 : Nat) : Int) ∧ MT G h' m 0 it φ ps im V n T ft ∧ ∀ q : Nat, (q < m ∨ m + 17 < q) → h' q = h q) := by
  obtain ⟨th, s, ⟨hm, cq1, cq2, cq3, cq4, cq5, cq6, cq7, cq8, cq9, cq10, cq11, cq12, cq13, cq14, cq15, cq16, cq17⟩, hsc, hth⟩ := hM
  obtain ⟨z1, z6, z9, z14, z17, z15, z16⟩ := id hsc
  obtain ⟨N, hn, hR⟩ := id cq2
  obtain ⟨S, hu⟩ := id cq11
  obtain ⟨Nt, ht⟩ := id cq8
  obtain ⟨h8, h28, hsm⟩ := id hS
  have hwy := wys_ok hS hG
  have hpr : (trv it 71 0 1).filter (op φ) = prs φ it it := by rw [trv_all it (by omega), prs_f]
  have hgl := goW_le (c := 0) (N := (Nw (prs φ it it) (EF φ 0))) (by omega)
  have hgw : ((Nw (prs φ it it) (EF φ 0)) ≤ 999 ∧ goW 0 (Nw (prs φ it it) (EF φ 0)) = (Nw (prs φ it it) (EF φ 0))) ∨ (999 < (Nw (prs φ it it) (EF φ 0)) ∧ goW 0 (Nw (prs φ it it) (EF φ 0)) = 1000) := by unfold goW; rw [if_neg (by decide), Nat.zero_add]; by_cases e : (Nw (prs φ it it) (EF φ 0)) ≤ 999; (rw [if_pos e]; omega); (rw [if_neg e]; omega)
  refine Con.of v_X10_ways.2.2.2.2.2.1 (Nat.le_of_ble_eq_true rfl) (lv := [(0, .ref m)]) rfl (fun X k => ?_)
  generalize hQQ : QM G X nx 0 0 _ = QQ
  have fr0 : ∀ q : Nat, (q ≠ m ∧ q ≠ m + 8 ∧ q ≠ m + 11) → h q = h q := fun _ _ => rfl
  refine g_aload_n k rfl dX10_ways_0 ?_
  refine g_iconst k dX10_ways_1 ?_
  refine g_put k 10 0 (C := RX10) (T := TX10) (N := 38) fl_X10_1 rfl wi_X10 tyX10 tyX10_ok nmX10 (by decide) rfl rfl rfl rfl hm (Nat.le_of_ble_eq_true rfl) (fs2 := mol m (fu s 0 0)) rfl rfl dX10_ways_2 (fun h2 eh2 => ?_)
  have hm_ : h2 m = some (mo m (fu s 0 0)) := (congrFun eh2 _).trans hup_s
  have hn_ : h2 (m + 2) = some (ai G 86 N) := (congrFun eh2 _).trans ((hup_n (by omega)).trans hn)
  have hu_ : h2 (m + 11) = some (ai G 64 S) := (congrFun eh2 _).trans ((hup_n (by omega)).trans hu)
  have ht_ : h2 (m + 8) = some (ai G 86 Nt) := (congrFun eh2 _).trans ((hup_n (by omega)).trans ht)
  have fr_ : ∀ q : Nat, (q ≠ m ∧ q ≠ m + 8 ∧ q ≠ m + 11) → h2 q = h q := fun q hq => (congrFun eh2 q).trans ((hup_n (by omega)).trans (fr0 q hq))
  refine g_aload_n k rfl dX10_ways_5 ?_
  refine g_get k 10 10 (v := .ref (m + 2)) (C := RX10) (T := TX10) (N := 38) fl_X10_74 rfl wi_X10 (by decide) rfl hm_ rfl dX10_ways_6 ?_
  refine g_iconst k dX10_ways_9 ?_
  refine g_aload_n k rfl dX10_ways_10 ?_
  refine g_get k 10 16 (v := .ref (m + 8)) (C := RX10) (T := TX10) (N := 38) fl_X10_92 rfl wi_X10 (by decide) rfl hm_ rfl dX10_ways_11 ?_
  refine g_iconst k dX10_ways_14 ?_
  refine g_cSv k (As := [.ref (m + 2), vi 0, .ref (m + 8), vi 0]) v_X10_copy ml_X10_163 (c_X10_copy (st := 0) (to := 0) hn_ ht_ (by omega) (by omega) (by omega) (by omega) (by omega)) (by omega) (by omega) rfl (Nat.le_of_ble_eq_true rfl) rfl dX10_ways_15 (fun h15 p15 => ?_)
  obtain ⟨nt, nfr⟩ := p15
  have hm__1 : h15 m = some (mo m (fu s 0 0)) := (nfr _ (by omega)).trans hm_
  have hn__1 : h15 (m + 2) = some (ai G 86 N) := (nfr _ (by omega)).trans hn_
  have hu__1 : h15 (m + 11) = some (ai G 64 S) := (nfr _ (by omega)).trans hu_
  have ht__1 : h15 (m + 8) = some (ai G 86 (cpF N 0 Nt 0 86)) := nt
  have fr__1 : ∀ q : Nat, (q ≠ m ∧ q ≠ m + 8 ∧ q ≠ m + 11) → h15 q = h q := fun q hq => (nfr q (by omega)).trans (fr_ q hq)
  have hRt : Rw (cpF N 0 Nt 0 86) it φ := hR.ext h28 (fun j hj => by have := @cpF_in N Nt 0 0 j hj; rw [Nat.zero_add] at this; exact this)
  refine g_aload_n k rfl dX10_ways_18 ?_
  refine g_iconst k dX10_ways_19 ?_
  refine g_put k 10 33 (C := RX10) (T := TX10) (N := 38) fl_X10_279 rfl wi_X10 tyX10 tyX10_ok nmX10 (by decide) rfl rfl rfl rfl hm__1 (Nat.le_of_ble_eq_true rfl) (fs2 := mol m (fu (fu s 0 0) 18 0)) rfl rfl dX10_ways_20 (fun h20 eh20 => ?_)
  have hm__2 : h20 m = some (mo m (fu (fu s 0 0) 18 0)) := (congrFun eh20 _).trans hup_s
  have hn__2 : h20 (m + 2) = some (ai G 86 N) := (congrFun eh20 _).trans ((hup_n (by omega)).trans hn__1)
  have hu__2 : h20 (m + 11) = some (ai G 64 S) := (congrFun eh20 _).trans ((hup_n (by omega)).trans hu__1)
  have ht__2 : h20 (m + 8) = some (ai G 86 (cpF N 0 Nt 0 86)) := (congrFun eh20 _).trans ((hup_n (by omega)).trans ht__1)
  have fr__2 : ∀ q : Nat, (q ≠ m ∧ q ≠ m + 8 ∧ q ≠ m + 11) → h20 q = h q := fun q hq => (congrFun eh20 q).trans ((hup_n (by omega)).trans (fr__1 q hq))
  refine g_aload_n k rfl dX10_ways_23 ?_
  refine g_iconst k dX10_ways_24 ?_
  refine g_iconst k dX10_ways_25 ?_
  refine g_cVv k 10 (As := [vi 0, vi 1]) v_X10_goesOn rfl rfl hm__2 ml_X10_282 (c_goesOn hS 71 h20 nx 0 1 0 φ (fu s 0 0) N (cpF N 0 Nt 0 86) S hm__2 hn__2 hR ht__2 hRt hS hG hu__2 (by omega) (by omega) (by omega) (fun _ => by omega) (fun _ _ _ _ => Iff.rfl)) (by omega) (by omega) rfl (Nat.le_of_ble_eq_true rfl) rfl dX10_ways_26 (fun h26 p26 => ?_)
  obtain ⟨⟨nm8, ⟨N8, nt8, hR8⟩, ⟨S8, nu8⟩⟩, nfr8⟩ := p26
  have hm__3 : h26 m = some (mo m (fu (fu s 0 0) 18 ((goW 0 (Nw (prs φ it it) (EF φ 0)) : Nat) : Int))) := (by rw [nm8, hpr])
  have hn__3 : h26 (m + 2) = some (ai G 86 N) := (nfr8 _ (by omega)).trans hn__2
  have hu__3 : h26 (m + 11) = some (ai G 64 S8) := nu8
  have ht__3 : h26 (m + 8) = some (ai G 86 N8) := nt8
  have fr__3 : ∀ q : Nat, (q ≠ m ∧ q ≠ m + 8 ∧ q ≠ m + 11) → h26 q = h q := fun q hq => (nfr8 q (by omega)).trans (fr__2 q hq)
  refine g_aload_n k rfl dX10_ways_29 ?_
  refine g_get k 10 33 (v := vi ((goW 0 (Nw (prs φ it it) (EF φ 0)) : Nat) : Int)) (C := RX10) (T := TX10) (N := 38) fl_X10_279 rfl wi_X10 (by decide) rfl hm__3 rfl dX10_ways_30 ?_
  refine g_sipush k rfl dX10_ways_33 ?_
  refine g_icmp_le k (tgt := 45) (by omega) (by omega) dX10_ways_36 (by decide) (fun c36 => ?_) (fun c36 => ?_)
  · skip
    refine g_aload_n k rfl dX10_ways_45 ?_
    refine g_get k 10 33 (v := vi ((goW 0 (Nw (prs φ it it) (EF φ 0)) : Nat) : Int)) (C := RX10) (T := TX10) (N := 38) fl_X10_279 rfl wi_X10 (by decide) rfl hm__3 rfl dX10_ways_46 ?_
    rw [← hQQ]
    refine g_ireti k rfl dX10_ways_49 ?_
    rw [hwy]
    exact ⟨(by split <;> omega), ⟨_, ⟨hm__3, ((fr__3 (m + 1) (by omega)).trans cq1), ⟨N, hn__3, hR⟩, (by rw [fr__3 (m + 3) (by omega)]; exact cq3), (by rw [fr__3 (m + 4) (by omega)]; exact cq4), (by rw [fr__3 (m + 5) (by omega)]; exact cq5), (by rw [fr__3 (m + 6) (by omega)]; exact cq6), (by rw [fr__3 (m + 7) (by omega)]; exact cq7), ⟨_, ht__3⟩, (by rw [fr__3 (m + 9) (by omega)]; exact cq9), (by rw [fr__3 (m + 10) (by omega)]; exact cq10), ⟨_, hu__3⟩, (by rw [fr__3 (m + 12) (by omega)]; exact cq12), (by rw [fr__3 (m + 13) (by omega)]; exact cq13), (by rw [fr__3 (m + 14) (by omega)]; exact cq14), (by rw [fr__3 (m + 15) (by omega)]; exact cq15), (by rw [fr__3 (m + 16) (by omega)]; exact cq16), (by rw [fr__3 (m + 17) (by omega)]; exact cq17)⟩, hsc, rfl⟩, (fun q hq => fr__3 q (by omega))⟩
  · skip
    refine g_sipush k rfl dX10_ways_39 ?_
    refine g_goto k (tgt := 49) dX10_ways_42 (by decide) ?_
    rw [← hQQ]
    refine g_ireti k rfl dX10_ways_49 ?_
    rw [hwy]
    exact ⟨(by split <;> omega), ⟨_, ⟨hm__3, ((fr__3 (m + 1) (by omega)).trans cq1), ⟨N, hn__3, hR⟩, (by rw [fr__3 (m + 3) (by omega)]; exact cq3), (by rw [fr__3 (m + 4) (by omega)]; exact cq4), (by rw [fr__3 (m + 5) (by omega)]; exact cq5), (by rw [fr__3 (m + 6) (by omega)]; exact cq6), (by rw [fr__3 (m + 7) (by omega)]; exact cq7), ⟨_, ht__3⟩, (by rw [fr__3 (m + 9) (by omega)]; exact cq9), (by rw [fr__3 (m + 10) (by omega)]; exact cq10), ⟨_, hu__3⟩, (by rw [fr__3 (m + 12) (by omega)]; exact cq12), (by rw [fr__3 (m + 13) (by omega)]; exact cq13), (by rw [fr__3 (m + 14) (by omega)]; exact cq14), (by rw [fr__3 (m + 15) (by omega)]; exact cq15), (by rw [fr__3 (m + 16) (by omega)]; exact cq16), (by rw [fr__3 (m + 17) (by omega)]; exact cq17)⟩, hsc, rfl⟩, (fun q hq => fr__3 q (by omega))⟩

