/-! the rest of Reach; Past; Tape -/
/-- all rows below n raised by a fact from x to y of weight c -/
def lkF (M : Nat → Int) (it x y : Nat) (c : Int) : Nat → (Nat → Int)
  | 0 => M
  | n + 1 => if lkF M it x y c n (n * 8 + x) = -1000000000 then lkF M it x y c n else rrw (lkF M it x y c n) n (lkF M it x y c n (n * 8 + x) + c) y it
theorem lkF_at {M : Nat → Int} {it x y : Nat} {c : Int} : ∀ (n : Nat) {j : Nat}, n ≤ j / 8 → lkF M it x y c n j = M j
  | 0, j, _ => rfl
  | n + 1, j, h => by
    unfold lkF
    split
    · exact lkF_at n (by omega)
    · rw [rrw_other (by omega)]; exact lkF_at n (by omega)
theorem lkF_bd {M : Nat → Int} {it x y : Nat} {c B : Int} (hx : x < 8) (hy : y < 8) (hB : Bd B M) (h0 : 0 ≤ B) (hc : c = 1 ∨ c = -1) : ∀ n : Nat, n ≤ 8 → ∀ j, j < 64 → (j / 8 = y → lkF M it x y c n j ≤ 2 * B + 1 ∧ (lkF M it x y c n j = -1000000000 ∨ -(2 * B + 1) ≤ lkF M it x y c n j)) ∧ lkF M it x y c n j ≤ 3 * B + 2 ∧ (lkF M it x y c n j = -1000000000 ∨ -(3 * B + 2) ≤ lkF M it x y c n j)
  | 0, _ => fun j hj => by have := hB j hj; unfold lkF; omega
  | n + 1, hn => by
    have ih := lkF_bd hx hy hB h0 hc (it := it) n (by omega)
    intro j hj
    have e : lkF M it x y c n (n * 8 + x) = M (n * 8 + x) := lkF_at n (by omega)
    have b0 := hB (n * 8 + x) (by omega)
    have b1 := ih j hj
    unfold lkF
    split
    · exact b1
    · rename_i hq
      rw [e] at hq ⊢
      by_cases hj2 : j / 8 = n
      · have e1 : lkF M it x y c n j = M j := lkF_at n (by omega)
        have b2 := hB j hj
        have b3 := ih (y * 8 + j % 8) (by omega)
        have b3 := b3.1 (by omega)
        unfold rrw
        rw [e1]
        split
        · split
          · omega
          · by_cases hny : n = y
            · subst hny
              have e2 : lkF M it x n c n (n * 8 + j % 8) = M (n * 8 + j % 8) := lkF_at n (by omega)
              have b4 := hB (n * 8 + j % 8) (by omega)
              rw [e2] at b3 ⊢
              rename_i hz
              rw [e2] at hz
              omega
            · omega
        · omega
      · rw [rrw_other hj2]; exact b1
def jnF (M : Nat → Int) (it : Nat) (k x y : Nat) : Nat → Int := if k = 0 then lkF M it x y 1 it else lkF (lkF M it x y (-1) it) it y x (-1) it
set_option maxHeartbeats 600000 in
set_option maxRecDepth 100000 in
theorem c_X3_copyFrom {G : Gx} {h : Hp} {nx a it0 b it : Nat} {M N : Nat → Int} (hM : RA G h a it0 M) (hN : RA G h b it N) (hd : a + 1 < b ∨ b + 1 < a) : Con G yX3_copyFrom cX3_copyFrom 2 none 1 0 0 [.ref a, .ref b] h nx (PV fun h' => RA G h' a it N ∧ ∀ q : Nat, (q < a ∨ a + 1 < q) → h' q = h q) := by
  obtain ⟨ha, hm⟩ := hM
  obtain ⟨hb, hn⟩ := hN
  refine Con.of v_X3_copyFrom.2.2.2.2.2.1 (Nat.le_of_ble_eq_true rfl) (lv := [(0, .ref a), (1, .ref b)]) rfl (fun X k => ?_)
  generalize hQQ : QM G X nx 0 0 _ = QQ
  have fr0 : ∀ q : Nat, (q < a ∨ a + 1 < q) → h q = h q := fun _ _ => rfl
  refine g_aload_n k rfl dX3_copyFrom_0 ?_
  refine g_aload_n k rfl dX3_copyFrom_1 ?_
  refine g_get k 3 0 (C := RX3) (T := TX3) (N := 2) fl_X3_15 rfl wi_X3 (by decide) rfl hb rfl dX3_copyFrom_2 ?_
  refine g_put k 3 0 (C := RX3) (T := TX3) (N := 2) fl_X3_15 rfl wi_X3 tyX3 tyX3_ok nmX3 (by decide) rfl rfl rfl rfl ha (Nat.le_of_ble_eq_true rfl) (fs2 := [vi (it : Int), .ref (a + 1)]) rfl rfl dX3_copyFrom_5 (fun h5 eh5 => ?_)
  have ha_ : h5 a = some (ob 3 [vi (it : Int), .ref (a + 1)]) := (congrFun eh5 _).trans hup_s
  have hm_ : h5 (a + 1) = some (ai G 64 M) := (congrFun eh5 _).trans ((hup_n (by omega)).trans hm)
  have hb_ : h5 b = some (ob 3 [vi (it : Int), .ref (b + 1)]) := (congrFun eh5 _).trans ((hup_n (by omega)).trans hb)
  have hn_ : h5 (b + 1) = some (ai G 64 N) := (congrFun eh5 _).trans ((hup_n (by omega)).trans hn)
  have fr_ : ∀ q : Nat, (q < a ∨ a + 1 < q) → h5 q = h q := fun q hq => (congrFun eh5 q).trans ((hup_n (by omega)).trans (fr0 q hq))
  refine g_aload_n k rfl dX3_copyFrom_8 ?_
  refine g_get k 3 1 (C := RX3) (T := TX3) (N := 2) fl_X3_9 rfl wi_X3 (by decide) rfl hb_ rfl dX3_copyFrom_9 ?_
  refine g_iconst k dX3_copyFrom_12 ?_
  refine g_aload_n k rfl dX3_copyFrom_13 ?_
  refine g_get k 3 1 (C := RX3) (T := TX3) (N := 2) fl_X3_9 rfl wi_X3 (by decide) rfl ha_ rfl dX3_copyFrom_14 ?_
  refine g_iconst k dX3_copyFrom_17 ?_
  refine g_bipush k rfl dX3_copyFrom_18 ?_
  refine g_copy k ml_X3_19 ini_J10 hn_ hm_ (by omega) (by omega) (by omega) (by omega) (by omega) (by decide) (by decide) (by omega) (Nat.le_of_ble_eq_true rfl) dX3_copyFrom_20 (fun h20 eh20 => ?_)
  have ha__1 : h20 a = some (ob 3 [vi (it : Int), .ref (a + 1)]) := (congrFun eh20 _).trans ((hup_n (by omega)).trans ha_)
  have hm__1 : h20 (a + 1) = some (ai G 64 (va_cpy N M (0 : Int).toNat (0 : Int).toNat (64 : Int).toNat)) := (congrFun eh20 _).trans hup_s
  have hb__1 : h20 b = some (ob 3 [vi (it : Int), .ref (b + 1)]) := (congrFun eh20 _).trans ((hup_n (by omega)).trans hb_)
  have hn__1 : h20 (b + 1) = some (ai G 64 N) := (congrFun eh20 _).trans ((hup_n (by omega)).trans hn_)
  have fr__1 : ∀ q : Nat, (q < a ∨ a + 1 < q) → h20 q = h q := fun q hq => (congrFun eh20 q).trans ((hup_n (by omega)).trans (fr_ q hq))
  refine g_cell (g := N) hm__1 (fun j hj => by show va_cpy N M (0 : Int).toNat (0 : Int).toNat (64 : Int).toNat j = N j; exact fcp_at hj) (fun h23c eh23c => ?_)
  have ha__2 : h23c a = some (ob 3 [vi (it : Int), .ref (a + 1)]) := (congrFun eh23c _).trans ((hup_n (by omega)).trans ha__1)
  have hm__2 : h23c (a + 1) = some (ai G 64 N) := (congrFun eh23c _).trans hup_s
  have hb__2 : h23c b = some (ob 3 [vi (it : Int), .ref (b + 1)]) := (congrFun eh23c _).trans ((hup_n (by omega)).trans hb__1)
  have hn__2 : h23c (b + 1) = some (ai G 64 N) := (congrFun eh23c _).trans ((hup_n (by omega)).trans hn__1)
  have fr__2 : ∀ q : Nat, (q < a ∨ a + 1 < q) → h23c q = h q := fun q hq => (congrFun eh23c q).trans ((hup_n (by omega)).trans (fr__1 q hq))
  rw [← hQQ]
  refine g_retv k rfl dX3_copyFrom_23 ?_
  exact ⟨⟨ha__2, hm__2⟩, fr__2⟩

set_option maxHeartbeats 600000 in
set_option maxRecDepth 100000 in
theorem c_X3_link {G : Gx} {h : Hp} {nx a it : Nat} {M : Nat → Int} (hM : RA G h a it M) (h8 : it ≤ 8) {B : Int} (hB : Bd B M) (hB2 : 0 ≤ B ∧ B ≤ 1000000) {x y : Nat} (hx : x < 8) (hy : y < 8) {c : Int} (hc : c = 1 ∨ c = -1) : Con G yX3_link cX3_link 5 none 2 0 0 [.ref a, vi (x : Int), vi (y : Int), vi c] h nx (PV fun h' => RA G h' a it (lkF M it x y c it) ∧ ∀ q : Nat, (q < a ∨ a + 1 < q) → h' q = h q) := by
  obtain ⟨ha, hm⟩ := hM
  refine Con.of v_X3_link.2.2.2.2.2.1 (Nat.le_of_ble_eq_true rfl) (lv := [(0, .ref a), (1, vi (x : Int)), (2, vi (y : Int)), (3, vi c)]) rfl (fun X k => ?_)
  generalize hQQ : QM G X nx 0 0 _ = QQ
  have fr0 : ∀ q : Nat, (q < a ∨ a + 1 < q) → h q = h q := fun _ _ => rfl
  refine g_iconst k dX3_link_0 ?_
  refine g_istore k (lv2 := [(0, .ref a), (1, vi (x : Int)), (2, vi (y : Int)), (3, vi c), (4, vi 0)]) (by decide) rfl rfl dX3_link_1 ?_
  have K3 : ∀ (nz : Nat) (u : Nat) (h3 : Hp) (ha_ : h3 a = some (ob 3 [vi (it : Int), .ref (a + 1)])) (hm_ : h3 (a + 1) = some (ai G 64 (lkF M it x y c u))) (fr_ : ∀ q : Nat, (q < a ∨ a + 1 < q) → h3 q = h q) (hu : u ≤ it) (hmz : it - u < nz), Go G X 5 QQ 0 0 nx 3 [(0, .ref a), (1, vi (x : Int)), (2, vi (y : Int)), (3, vi c), (4, vi (u : Int))] [] h3 := by
    intro nz
    induction nz with
    | zero => intro u h3 ha_ hm_ fr_ hu hmz; exact absurd hmz (Nat.not_lt_zero _)
    | succ nz ih3 =>
      intro u h3 ha_ hm_ fr_ hu hmz
      refine g_iload k rfl dX3_link_3 ?_
      refine g_aload_n k rfl dX3_link_5 ?_
      refine g_get k 3 0 (C := RX3) (T := TX3) (N := 2) fl_X3_15 rfl wi_X3 (by decide) rfl ha_ rfl dX3_link_6 ?_
      refine g_icmp_ge k (tgt := 46) (by omega) (by omega) dX3_link_9 (by decide) (fun c9 => ?_) (fun c9 => ?_)
      · skip
        rw [← hQQ]
        refine g_retv k rfl dX3_link_46 ?_
        have e : u = it := by omega
        subst e
        exact ⟨⟨ha_, hm_⟩, fr_⟩
      · skip
        have hbu := lkF_bd (it := it) hx hy hB hB2.1 hc u (by omega)
        have hbu2 : Bd (3 * B + 2) (lkF M it x y c u) := fun j hj => (hbu j hj).2
        have b0 := hbu2 (u * 8 + x) (by omega)
        refine g_aload_n k rfl dX3_link_12 ?_
        refine g_iload k rfl dX3_link_13 ?_
        refine g_iload_n k rfl dX3_link_15 ?_
        refine g_cVi k 3 (As := [vi (u : Int), vi (x : Int)]) v_X3_between rfl rfl ha_ ml_X3_32 (c_X3_between ⟨ha_, hm_⟩ (u := u) (v := x) (by omega) (by omega)) (by omega) (by omega) rfl (Nat.le_of_ble_eq_true rfl) rfl dX3_link_16 (fun r16 h16 p16 => ?_)
        obtain ⟨eh16, p16⟩ := p16
        have eh16 := eh16.symm; subst eh16
        subst p16
        refine g_ldc k (z := (-1000000000)) cn_X3_48 rfl dX3_link_19 ?_
        refine g_icmp_eq k (tgt := 40) (by omega) (by omega) dX3_link_21 (by decide) (fun c21 => ?_) (fun c21 => ?_)
        · skip
          refine g_iinc k (lv2 := [(0, .ref a), (1, vi (x : Int)), (2, vi (y : Int)), (3, vi c), (4, vi ((u : Int) + 1))]) rfl (by decide) rfl rfl dX3_link_40 ?_
          refine g_goto k (tgt := 3) dX3_link_43 (by decide) ?_
          rw [show lkF M it x y c u = lkF M it x y c (u + 1) by rw [lkF, if_pos (by omega)]] at hm_
          exact ih3 (u + 1) h3 ha_ hm_ fr_ (by omega) (by omega)
        · skip
          refine g_aload_n k rfl dX3_link_24 ?_
          refine g_iload k rfl dX3_link_25 ?_
          refine g_aload_n k rfl dX3_link_27 ?_
          refine g_iload k rfl dX3_link_28 ?_
          refine g_iload_n k rfl dX3_link_30 ?_
          refine g_cVi k 3 (As := [vi (u : Int), vi (x : Int)]) v_X3_between rfl rfl ha_ ml_X3_32 (c_X3_between ⟨ha_, hm_⟩ (u := u) (v := x) (by omega) (by omega)) (by omega) (by omega) rfl (Nat.le_of_ble_eq_true rfl) rfl dX3_link_31 (fun r31 h31 p31 => ?_)
          obtain ⟨eh31, p31⟩ := p31
          have eh31 := eh31.symm; subst eh31
          subst p31
          refine g_iload_n k rfl dX3_link_34 ?_
          refine g_iadd k dX3_link_35 ?_
          refine g_iload_n k rfl dX3_link_36 ?_
          refine g_cVv k 3 (As := [vi (u : Int), vi ((lkF M it x y c u (u * 8 + x)) + c), vi (y : Int)]) v_X3_raiseRow rfl rfl ha_ ml_X3_61 (c_X3_raiseRow ⟨ha_, hm_⟩ h8 (by omega) (by omega) hbu2 (by omega) (by omega)) (by omega) (by omega) rfl (Nat.le_of_ble_eq_true rfl) rfl dX3_link_37 (fun h37 p37 => ?_)
          obtain ⟨⟨na, nm⟩, nfr⟩ := p37
          have ha__1 : h37 a = some (ob 3 [vi (it : Int), .ref (a + 1)]) := na
          have hm__1 : h37 (a + 1) = some (ai G 64 (rrw (lkF M it x y c u) u (lkF M it x y c u (u * 8 + x) + c) y it)) := nm
          have fr__1 : ∀ q : Nat, (q < a ∨ a + 1 < q) → h37 q = h q := fun q hq => (nfr q (by omega)).trans (fr_ q hq)
          refine g_iinc k (lv2 := [(0, .ref a), (1, vi (x : Int)), (2, vi (y : Int)), (3, vi c), (4, vi ((u : Int) + 1))]) rfl (by decide) rfl rfl dX3_link_40 ?_
          refine g_goto k (tgt := 3) dX3_link_43 (by decide) ?_
          rw [show rrw (lkF M it x y c u) u (lkF M it x y c u (u * 8 + x) + c) y it = lkF M it x y c (u + 1) by rw [lkF, if_neg (by omega)]] at hm__1
          exact ih3 (u + 1) h37 ha__1 hm__1 fr__1 (by omega) (by omega)
  exact K3 _ 0 h ha hm fr0 (Nat.zero_le _) (Nat.lt_succ_self _)

set_option maxHeartbeats 600000 in
set_option maxRecDepth 100000 in
theorem c_X3_join {G : Gx} {h : Hp} {nx a it : Nat} {M : Nat → Int} (hM : RA G h a it M) (h8 : it ≤ 8) {B : Int} (hB : Bd B M) (hB2 : 0 ≤ B ∧ B ≤ 100000) {k1 x y : Nat} (hk : k1 ≤ 1) (hx : x < 8) (hy : y < 8) : Con G yX3_join cX3_join 4 none 3 0 0 [.ref a, vi (k1 : Int), vi (x : Int), vi (y : Int)] h nx (PV fun h' => RA G h' a it (jnF M it k1 x y) ∧ ∀ q : Nat, (q < a ∨ a + 1 < q) → h' q = h q) := by
  obtain ⟨ha, hm⟩ := hM
  have hb2 : Bd (3 * B + 2) (lkF M it x y (-1) it) := fun j hj => (lkF_bd hx hy hB hB2.1 (Or.inr rfl) it h8 j hj).2
  refine Con.of v_X3_join.2.2.2.2.2.1 (Nat.le_of_ble_eq_true rfl) (lv := [(0, .ref a), (1, vi (k1 : Int)), (2, vi (x : Int)), (3, vi (y : Int))]) rfl (fun X k => ?_)
  generalize hQQ : QM G X nx 0 0 _ = QQ
  have fr0 : ∀ q : Nat, (q < a ∨ a + 1 < q) → h q = h q := fun _ _ => rfl
  refine g_iload_n k rfl dX3_join_0 ?_
  refine g_if_ne k (tgt := 14) (by omega) dX3_join_1 (by decide) (fun c1 => ?_) (fun c1 => ?_)
  · skip
    refine g_aload_n k rfl dX3_join_14 ?_
    refine g_iload_n k rfl dX3_join_15 ?_
    refine g_iload_n k rfl dX3_join_16 ?_
    refine g_iconst k dX3_join_17 ?_
    refine g_cVv k 3 (As := [vi (x : Int), vi (y : Int), vi (-1)]) v_X3_link rfl rfl ha ml_X3_41 (c_X3_link ⟨ha, hm⟩ h8 hB (by omega) hx hy (Or.inr rfl)) (by omega) (by omega) rfl (Nat.le_of_ble_eq_true rfl) rfl dX3_join_18 (fun h18 p18 => ?_)
    obtain ⟨⟨na, nm⟩, nfr⟩ := p18
    have ha_ : h18 a = some (ob 3 [vi (it : Int), .ref (a + 1)]) := na
    have hm_ : h18 (a + 1) = some (ai G 64 (lkF M it x y (-1) it)) := nm
    have fr_ : ∀ q : Nat, (q < a ∨ a + 1 < q) → h18 q = h q := fun q hq => (nfr q (by omega)).trans (fr0 q hq)
    refine g_aload_n k rfl dX3_join_21 ?_
    refine g_iload_n k rfl dX3_join_22 ?_
    refine g_iload_n k rfl dX3_join_23 ?_
    refine g_iconst k dX3_join_24 ?_
    refine g_cVv k 3 (As := [vi (y : Int), vi (x : Int), vi (-1)]) v_X3_link rfl rfl ha_ ml_X3_41 (c_X3_link ⟨ha_, hm_⟩ h8 hb2 (by omega) hy hx (Or.inr rfl)) (by omega) (by omega) rfl (Nat.le_of_ble_eq_true rfl) rfl dX3_join_25 (fun h25 p25 => ?_)
    obtain ⟨⟨na, nm⟩, nfr⟩ := p25
    have ha__1 : h25 a = some (ob 3 [vi (it : Int), .ref (a + 1)]) := na
    have hm__1 : h25 (a + 1) = some (ai G 64 (lkF (lkF M it x y (-1) it) it y x (-1) it)) := nm
    have fr__1 : ∀ q : Nat, (q < a ∨ a + 1 < q) → h25 q = h q := fun q hq => (nfr q (by omega)).trans (fr_ q hq)
    rw [← hQQ]
    refine g_retv k rfl dX3_join_28 ?_
    exact ⟨⟨ha__1, by rw [jnF, if_neg (by omega)]; exact hm__1⟩, fr__1⟩
  · skip
    refine g_aload_n k rfl dX3_join_4 ?_
    refine g_iload_n k rfl dX3_join_5 ?_
    refine g_iload_n k rfl dX3_join_6 ?_
    refine g_iconst k dX3_join_7 ?_
    refine g_cVv k 3 (As := [vi (x : Int), vi (y : Int), vi 1]) v_X3_link rfl rfl ha ml_X3_41 (c_X3_link ⟨ha, hm⟩ h8 hB (by omega) hx hy (Or.inl rfl)) (by omega) (by omega) rfl (Nat.le_of_ble_eq_true rfl) rfl dX3_join_8 (fun h8 p8 => ?_)
    obtain ⟨⟨na, nm⟩, nfr⟩ := p8
    have ha__2 : h8 a = some (ob 3 [vi (it : Int), .ref (a + 1)]) := na
    have hm__2 : h8 (a + 1) = some (ai G 64 (lkF M it x y 1 it)) := nm
    have fr__2 : ∀ q : Nat, (q < a ∨ a + 1 < q) → h8 q = h q := fun q hq => (nfr q (by omega)).trans (fr0 q hq)
    refine g_goto k (tgt := 28) dX3_join_11 (by decide) ?_
    rw [← hQQ]
    refine g_retv k rfl dX3_join_28 ?_
    exact ⟨⟨ha__2, by rw [jnF, if_pos (by omega)]; exact hm__2⟩, fr__2⟩

def TA (G : Gx) (h : Hp) (a n : Nat) (T : Nat → Int) : Prop := h a = some (ob 7 [vi (n : Int), .ref (a + 1)]) ∧ h (a + 1) = some (ai G 740 T)
/-- four bytes behind n, the highest first; the first i of them -/
def ptF (T : Nat → Int) (n : Nat) (x : Int) : Nat → (Nat → Int)
  | 0 => T
  | i + 1 => fu (ptF T n x i) (n + i) (x % 4294967296 / 2 ^ (24 - 8 * i) % 256)
set_option maxHeartbeats 600000 in
set_option maxRecDepth 100000 in
theorem c_X7_put {G : Gx} {h : Hp} {nx a n : Nat} {T : Nat → Int} (hT : TA G h a n T) (hn : n + 4 ≤ 740) {x : Int} : Con G yX7_put cX7_put 3 none 1 0 0 [.ref a, vi x] h nx (PV fun h' => TA G h' a (n + 4) (ptF T n x 4) ∧ ∀ q : Nat, (q < a ∨ a + 1 < q) → h' q = h q) := by
  obtain ⟨ha, hm⟩ := hT
  refine Con.of v_X7_put.2.2.2.2.2.1 (Nat.le_of_ble_eq_true rfl) (lv := [(0, .ref a), (1, vi x)]) rfl (fun X k => ?_)
  generalize hQQ : QM G X nx 0 0 _ = QQ
  have fr0 : ∀ q : Nat, (q < a ∨ a + 1 < q) → h q = h q := fun _ _ => rfl
  refine g_bipush k rfl dX7_put_0 ?_
  refine g_istore_n k (lv2 := [(0, .ref a), (1, vi x), (2, vi 24)]) (by decide) rfl rfl dX7_put_2 ?_
  have K3 : ∀ (nz : Nat) (i : Nat) (h3 : Hp) (ha_ : h3 a = some (ob 7 [vi ((n + i : Nat) : Int), .ref (a + 1)])) (hm_ : h3 (a + 1) = some (ai G 740 (ptF T n x i))) (fr_ : ∀ q : Nat, (q < a ∨ a + 1 < q) → h3 q = h q) (hi : i ≤ 4) (hmz : 4 - i < nz), Go G X 3 QQ 0 0 nx 3 [(0, .ref a), (1, vi x), (2, vi (24 - 8 * (i : Int)))] [] h3 := by
    intro nz
    induction nz with
    | zero => intro i h3 ha_ hm_ fr_ hi hmz; exact absurd hmz (Nat.not_lt_zero _)
    | succ nz ih3 =>
      intro i h3 ha_ hm_ fr_ hi hmz
      refine g_iload_n k rfl dX7_put_3 ?_
      refine g_if_lt k (tgt := 49) (by omega) dX7_put_4 (by decide) (fun c4 => ?_) (fun c4 => ?_)
      · skip
        rw [← hQQ]
        refine g_retv k rfl dX7_put_49 ?_
        have e : i = 4 := by omega
        subst e
        exact ⟨⟨ha_, hm_⟩, fr_⟩
      · skip
        refine g_aload_n k rfl dX7_put_7 ?_
        refine g_get k 7 0 (C := RX7) (T := TX7) (N := 2) fl_X7_13 rfl wi_X7 (by decide) rfl ha_ rfl dX7_put_8 ?_
        refine g_sipush k rfl dX7_put_11 ?_
        refine g_icmp_ge k (tgt := 49) (by omega) (by omega) dX7_put_14 (by decide) (fun c14 => ?_) (fun c14 => ?_)
        · skip
          omega
        · skip
          refine g_aload_n k rfl dX7_put_17 ?_
          refine g_get k 7 1 (C := RX7) (T := TX7) (N := 2) fl_X7_9 rfl wi_X7 (by decide) rfl ha_ rfl dX7_put_18 ?_
          refine g_aload_n k rfl dX7_put_21 ?_
          refine g_get k 7 0 (C := RX7) (T := TX7) (N := 2) fl_X7_13 rfl wi_X7 (by decide) rfl ha_ rfl dX7_put_22 ?_
          refine g_iload_n k rfl dX7_put_25 ?_
          refine g_iload_n k rfl dX7_put_26 ?_
          refine g_iushr k (by omega) dX7_put_27 ?_
          refine g_sipush k rfl dX7_put_28 ?_
          refine g_iandm k 8 (by decide) (by decide) dX7_put_31 ?_
          rw [show (x % 4294967296 / 2 ^ (24 - 8 * (i : Int)).toNat) % 2 ^ 8 = x % 4294967296 / 2 ^ (24 - 8 * i) % 256 from (by rw [show (24 - 8 * (i : Int)).toNat = 24 - 8 * i by omega]; rfl)]
          refine g_iast k (n + i) hm_ (by omega) (by omega) (by decide) dX7_put_32 (fun h32 eh32 => ?_)
          have ha__1 : h32 a = some (ob 7 [vi ((n + i : Nat) : Int), .ref (a + 1)]) := (congrFun eh32 _).trans ((hup_n (by omega)).trans ha_)
          have hm__1 : h32 (a + 1) = some (ai G 740 (fu (ptF T n x i) (n + i) (x % 4294967296 / 2 ^ (24 - 8 * i) % 256))) := (congrFun eh32 _).trans hup_s
          have fr__1 : ∀ q : Nat, (q < a ∨ a + 1 < q) → h32 q = h q := fun q hq => (congrFun eh32 q).trans ((hup_n (by omega)).trans (fr_ q hq))
          refine g_aload_n k rfl dX7_put_33 ?_
          refine g_dup k rfl dX7_put_34 ?_
          refine g_get k 7 0 (C := RX7) (T := TX7) (N := 2) fl_X7_13 rfl wi_X7 (by decide) rfl ha__1 rfl dX7_put_35 ?_
          refine g_iconst k dX7_put_38 ?_
          refine g_iadd k dX7_put_39 ?_
          refine g_put k 7 0 (C := RX7) (T := TX7) (N := 2) fl_X7_13 rfl wi_X7 tyX7 tyX7_ok nmX7 (by decide) rfl rfl rfl rfl ha__1 (Nat.le_of_ble_eq_true rfl) (fs2 := [vi (((n + i : Nat) : Int) + 1), .ref (a + 1)]) rfl rfl dX7_put_40 (fun h40 eh40 => ?_)
          have ha__2 : h40 a = some (ob 7 [vi (((n + i : Nat) : Int) + 1), .ref (a + 1)]) := (congrFun eh40 _).trans hup_s
          have hm__2 : h40 (a + 1) = some (ai G 740 (fu (ptF T n x i) (n + i) (x % 4294967296 / 2 ^ (24 - 8 * i) % 256))) := (congrFun eh40 _).trans ((hup_n (by omega)).trans hm__1)
          have fr__2 : ∀ q : Nat, (q < a ∨ a + 1 < q) → h40 q = h q := fun q hq => (congrFun eh40 q).trans ((hup_n (by omega)).trans (fr__1 q hq))
          refine g_iinc k (lv2 := [(0, .ref a), (1, vi x), (2, vi ((24 - 8 * (i : Int)) + (-8)))]) rfl (by decide) rfl rfl dX7_put_43 ?_
          refine g_goto k (tgt := 3) dX7_put_46 (by decide) ?_
          rw [show 24 - 8 * (i : Int) + -8 = 24 - 8 * ((i + 1 : Nat) : Int) by omega]
          exact ih3 (i + 1) h40 ha__2 hm__2 fr__2 (by omega) (by omega)
  exact K3 _ 0 h ha hm fr0 (Nat.zero_le _) (Nat.lt_succ_self _)

