/-! Ring.bits; the order by begins -/
def rbF (r : Nat → Int) : Nat → Nat
  | 0 => 0
  | i + 1 => rbF r i ||| 2 ^ (r i).toNat
theorem rbF_lt {r : Nat → Int} : ∀ n, (∀ i, i < n → 0 ≤ r i ∧ r i < 28) → rbF r n < 268435456
  | 0, _ => by show 0 < _; decide
  | i + 1, h => by
    have h1 := rbF_lt i (fun j hj => h j (by omega))
    have h2 := h i (by omega)
    have h3 : 2 ^ (r i).toNat < 2 ^ 28 := Nat.pow_lt_pow_right (by decide) (by omega)
    exact Nat.or_lt_two_pow (n := 28) h1 h3
set_option maxHeartbeats 600000 in
set_option maxRecDepth 100000 in
theorem c_X5_bits {G : Gx} {h : Hp} {nx a n : Nat} {c0 x0 y0 : Int} {r0 S0 : Nat → Int} (hA : GA G h a ((n : Int) + 1) c0 x0 y0 r0 S0) (hn : n < 8) (hr : ∀ i, i < n → 0 ≤ r0 i ∧ r0 i < 28) : Con G yX5_bits cX5_bits 3 (some .int) 1 0 0 [.ref a] h nx (PI fun z h' => h' = h ∧ z = (rbF r0 n : Nat)) := by
  obtain ⟨ha, hw, hm⟩ := hA
  refine Con.of v_X5_bits.2.2.2.2.2.1 (Nat.le_of_ble_eq_true rfl) (lv := [(0, .ref a)]) rfl (fun X k => ?_)
  generalize hQQ : QM G X nx 0 0 _ = QQ
  refine g_iconst k dX5_bits_0 ?_
  refine g_istore_n k (lv2 := [(0, .ref a), (1, vi 0)]) (by decide) rfl rfl dX5_bits_1 ?_
  refine g_iconst k dX5_bits_2 ?_
  refine g_istore_n k (lv2 := [(0, .ref a), (1, vi 0), (2, vi 0)]) (by decide) rfl rfl dX5_bits_3 ?_
  have K4 : ∀ (nz : Nat) (v : Nat) (hv : v ≤ n) (hmz : n - v < nz), Go G X 3 QQ 0 0 nx 4 [(0, .ref a), (1, vi (rbF r0 v : Int)), (2, vi (v : Int))] [] h := by
    intro nz
    induction nz with
    | zero => intro v hv hmz; exact absurd hmz (Nat.not_lt_zero _)
    | succ nz ih4 =>
      intro v hv hmz
      refine g_iload_n k rfl dX5_bits_4 ?_
      refine g_iconst k dX5_bits_5 ?_
      refine g_iadd k dX5_bits_6 ?_
      refine g_aload_n k rfl dX5_bits_7 ?_
      refine g_get k 5 0 (C := RX5) (T := TX5) (N := 6) fl_X5_26 rfl wi_X5 (by decide) rfl ha rfl dX5_bits_8 ?_
      refine g_icmp_ge k (tgt := 31) (by omega) (by omega) dX5_bits_11 (by decide) (fun c11 => ?_) (fun c11 => ?_)
      · skip
        refine g_iload_n k rfl dX5_bits_31 ?_
        rw [← hQQ]
        refine g_ireti k rfl dX5_bits_32 ?_
        have e : v = n := by omega
        subst e
        exact ⟨rfl, rfl⟩
      · skip
        have hb := hr v (by omega)
        have hlt := rbF_lt v (fun j hj => hr j (by omega))
        have hp := pow31 (n := (r0 v).toNat) (by omega)
        refine g_iload_n k rfl dX5_bits_14 ?_
        refine g_iconst k dX5_bits_15 ?_
        refine g_aload_n k rfl dX5_bits_16 ?_
        refine g_get k 5 4 (C := RX5) (T := TX5) (N := 6) fl_X5_9 rfl wi_X5 (by decide) rfl ha rfl dX5_bits_17 ?_
        refine g_iload_n k rfl dX5_bits_20 ?_
        refine g_iald k v hw (by omega) (by omega) (by decide) dX5_bits_21 ?_
        refine g_ishl k (by omega) dX5_bits_22 ?_
        rw [show 1 * 2 ^ (r0 v).toNat = ((2 ^ (r0 v).toNat : Nat) : Int) from (by rw [Int.natCast_pow, Int.one_mul]; rfl)]
        refine g_ior k (a := rbF r0 v) (b := 2 ^ (r0 v).toNat) (by omega) (by omega) dX5_bits_23 ?_
        refine g_istore_n k (lv2 := [(0, .ref a), (1, vi ((rbF r0 v ||| 2 ^ (r0 v).toNat : Nat) : Int)), (2, vi (v : Int))]) (by decide) rfl rfl dX5_bits_24 ?_
        refine g_iinc k (lv2 := [(0, .ref a), (1, vi ((rbF r0 v ||| 2 ^ (r0 v).toNat : Nat) : Int)), (2, vi ((v : Int) + 1))]) rfl (by decide) rfl rfl dX5_bits_25 ?_
        refine g_goto k (tgt := 4) dX5_bits_28 (by decide) ?_
        exact ih4 (v + 1) (by omega) (by omega)
  exact K4 _ 0 (Nat.zero_le _) (Nat.lt_succ_self _)

def OA (G : Gx) (h : Hp) (a : Nat) (L r it : Int) (RO PR ST QU : Nat → Int) : Prop := h a = some (ob 1 [vi L, vi r, .ref (a + 1), .ref (a + 2), vi it, .ref (a + 3), .ref (a + 4), .ref (a + 5)]) ∧ h (a + 1) = some (ai G 8 RO) ∧ h (a + 2) = some (ai G 8 PR) ∧ h (a + 3) = some (ai G 8 ST) ∧ h (a + 4) = some (ai G 8 QU)
/-- L is the least length -/
def isL (φ : Fs) (it L : Nat) : Prop := 1 ≤ L ∧ L < 60 ∧ reS (str φ L it) it ∧ ∀ j : Nat, 1 ≤ j → j < L → ¬ reS (str φ j it) it
def bgn (φ : Fs) (it L v : Nat) : Int := ely (str φ L it) v it
theorem str_bd {φ : Fs} {it : Nat} {L : Int} (h8 : it ≤ 8) (hL : 1 ≤ L ∧ L ≤ 60) : Bd 15360 (str φ L it) := by
  have h := clM_bd (it := it) (lyF_bd (φ := φ) (w := 0) (p := L) (q := 1 - L) (B := 60) (by omega) (by omega) (by omega) φ.length) (by omega) it h8 h8
  have hp : (2 : Int) ^ it ≤ 256 := by
    have : ∀ n : Nat, n < 9 → (2 : Int) ^ n ≤ 256 := by decide
    exact this it (by omega)
  intro j hj
  have := h j hj
  unfold str
  omega
set_option maxHeartbeats 600000 in
set_option maxRecDepth 100000 in
theorem c_X1_lay {G : Gx} {h : Hp} {nx a : Nat} {L0 g0 i0 : Int} {RO PR ST QU : Nat → Int} (hA : OA G h a L0 g0 i0 RO PR ST QU) {it0 : Nat} {M : Nat → Int} (hM : RA G h (a + 5) it0 M) {b it L : Nat} {φ : Fs} (hF : FA G h b it φ) (hS : Sm it φ) (hd : a + 6 < b ∨ b + 3 < a) (hL : isL φ it L) : Con G yX1_lay cX1_lay 3 none 4 0 0 [.ref a, .ref b] h nx (PV fun h' => (∃ ST2 : Nat → Int, OA G h' a L g0 it RO PR ST2 QU ∧ ∀ v, v < it → ST2 v = bgn φ it L v) ∧ RA G h' (a + 5) it (str φ L it) ∧ ∀ q : Nat, (q < a ∨ a + 6 < q) → h' q = h q) := by
  obtain ⟨ha, ho, hp, ht, hq⟩ := hA
  obtain ⟨hx, hm⟩ := hM
  have hF0 := hF
  obtain ⟨K, F, Z, hb, hbk, hbf, hbs, hr⟩ := hF
  obtain ⟨h8, h28, hsm⟩ := id hS
  obtain ⟨l1, l2, l3, l4⟩ := hL
  have hbd := str_bd (φ := φ) (L := (L : Int)) h8 (by omega)
  refine Con.of v_X1_lay.2.2.2.2.2.1 (Nat.le_of_ble_eq_true rfl) (lv := [(0, .ref a), (1, .ref b)]) rfl (fun X k => ?_)
  generalize hQQ : QM G X nx 0 0 _ = QQ
  have fr0 : ∀ q : Nat, (q < a ∨ a + 6 < q) → h q = h q := fun _ _ => rfl
  refine g_aload_n k rfl dX1_lay_0 ?_
  refine g_aload_n k rfl dX1_lay_1 ?_
  refine g_get k 0 0 (C := RX0) (T := TX0) (N := 5) fl_X1_31 rfl wi_X0 (by decide) rfl hb rfl dX1_lay_2 ?_
  refine g_put k 1 4 (C := RX1) (T := TX1) (N := 8) fl_X1_37 rfl wi_X1 tyX1 tyX1_ok nmX1 (by decide) rfl rfl rfl rfl ha (Nat.le_of_ble_eq_true rfl) (fs2 := [vi L0, vi g0, .ref (a + 1), .ref (a + 2), vi (it : Int), .ref (a + 3), .ref (a + 4), .ref (a + 5)]) rfl rfl dX1_lay_5 (fun h5 eh5 => ?_)
  have ha_ : h5 a = some (ob 1 [vi L0, vi g0, .ref (a + 1), .ref (a + 2), vi (it : Int), .ref (a + 3), .ref (a + 4), .ref (a + 5)]) := (congrFun eh5 _).trans hup_s
  have ho_ : h5 (a + 1) = some (ai G 8 RO) := (congrFun eh5 _).trans ((hup_n (by omega)).trans ho)
  have hp_ : h5 (a + 2) = some (ai G 8 PR) := (congrFun eh5 _).trans ((hup_n (by omega)).trans hp)
  have ht_ : h5 (a + 3) = some (ai G 8 ST) := (congrFun eh5 _).trans ((hup_n (by omega)).trans ht)
  have hq_ : h5 (a + 4) = some (ai G 8 QU) := (congrFun eh5 _).trans ((hup_n (by omega)).trans hq)
  have hx_ : h5 (a + 5) = some (ob 3 [vi (it0 : Int), .ref (a + 5 + 1)]) := (congrFun eh5 _).trans ((hup_n (by omega)).trans hx)
  have hm_ : h5 (a + 5 + 1) = some (ai G 64 M) := (congrFun eh5 _).trans ((hup_n (by omega)).trans hm)
  have hb_ : h5 b = some (ob 0 [vi (it : Int), vi (φ.length : Int), .ref (b + 1), .ref (b + 2), .ref (b + 3)]) := (congrFun eh5 _).trans ((hup_n (by omega)).trans hb)
  have fr_ : ∀ q : Nat, (q < a ∨ a + 6 < q) → h5 q = h q := fun q hq => (congrFun eh5 q).trans ((hup_n (by omega)).trans (fr0 q hq))
  refine g_aload_n k rfl dX1_lay_8 ?_
  refine g_iconst k dX1_lay_9 ?_
  refine g_put k 1 0 (C := RX1) (T := TX1) (N := 8) fl_X1_38 rfl wi_X1 tyX1 tyX1_ok nmX1 (by decide) rfl rfl rfl rfl ha_ (Nat.le_of_ble_eq_true rfl) (fs2 := [vi 1, vi g0, .ref (a + 1), .ref (a + 2), vi (it : Int), .ref (a + 3), .ref (a + 4), .ref (a + 5)]) rfl rfl dX1_lay_10 (fun h10 eh10 => ?_)
  have ha__1 : h10 a = some (ob 1 [vi 1, vi g0, .ref (a + 1), .ref (a + 2), vi (it : Int), .ref (a + 3), .ref (a + 4), .ref (a + 5)]) := (congrFun eh10 _).trans hup_s
  have ho__1 : h10 (a + 1) = some (ai G 8 RO) := (congrFun eh10 _).trans ((hup_n (by omega)).trans ho_)
  have hp__1 : h10 (a + 2) = some (ai G 8 PR) := (congrFun eh10 _).trans ((hup_n (by omega)).trans hp_)
  have ht__1 : h10 (a + 3) = some (ai G 8 ST) := (congrFun eh10 _).trans ((hup_n (by omega)).trans ht_)
  have hq__1 : h10 (a + 4) = some (ai G 8 QU) := (congrFun eh10 _).trans ((hup_n (by omega)).trans hq_)
  have hx__1 : h10 (a + 5) = some (ob 3 [vi (it0 : Int), .ref (a + 5 + 1)]) := (congrFun eh10 _).trans ((hup_n (by omega)).trans hx_)
  have hm__1 : h10 (a + 5 + 1) = some (ai G 64 M) := (congrFun eh10 _).trans ((hup_n (by omega)).trans hm_)
  have hb__1 : h10 b = some (ob 0 [vi (it : Int), vi (φ.length : Int), .ref (b + 1), .ref (b + 2), .ref (b + 3)]) := (congrFun eh10 _).trans ((hup_n (by omega)).trans hb_)
  have fr__1 : ∀ q : Nat, (q < a ∨ a + 6 < q) → h10 q = h q := fun q hq => (congrFun eh10 q).trans ((hup_n (by omega)).trans (fr_ q hq))
  have K13 : ∀ (nz : Nat) (v : Nat) (it1 : Nat) (M1 : Nat → Int) (h13 : Hp) (ha__2 : h13 a = some (ob 1 [vi (v : Int), vi g0, .ref (a + 1), .ref (a + 2), vi (it : Int), .ref (a + 3), .ref (a + 4), .ref (a + 5)])) (ho__2 : h13 (a + 1) = some (ai G 8 RO)) (hp__2 : h13 (a + 2) = some (ai G 8 PR)) (ht__2 : h13 (a + 3) = some (ai G 8 ST)) (hq__2 : h13 (a + 4) = some (ai G 8 QU)) (hx__2 : h13 (a + 5) = some (ob 3 [vi (it1 : Int), .ref (a + 5 + 1)])) (hm__2 : h13 (a + 5 + 1) = some (ai G 64 M1)) (hb__2 : h13 b = some (ob 0 [vi (it : Int), vi (φ.length : Int), .ref (b + 1), .ref (b + 2), .ref (b + 3)])) (fr__2 : ∀ q : Nat, (q < a ∨ a + 6 < q) → h13 q = h q) (hv : 1 ≤ v ∧ v ≤ L) (hmz : L - v < nz), Go G X 3 QQ 0 0 nx 13 [(0, .ref a), (1, .ref b)] [] h13 := by
    intro nz
    induction nz with
    | zero => intro v it1 M1 h13 ha__2 ho__2 hp__2 ht__2 hq__2 hx__2 hm__2 hb__2 fr__2 hv hmz; exact absurd hmz (Nat.not_lt_zero _)
    | succ nz ih13 =>
      intro v it1 M1 h13 ha__2 ho__2 hp__2 ht__2 hq__2 hx__2 hm__2 hb__2 fr__2 hv hmz
      refine g_aload_n k rfl dX1_lay_13 ?_
      refine g_get k 1 0 (C := RX1) (T := TX1) (N := 8) fl_X1_38 rfl wi_X1 (by decide) rfl ha__2 rfl dX1_lay_14 ?_
      refine g_bipush k rfl dX1_lay_17 ?_
      refine g_icmp_ge k (tgt := 50) (by omega) (by omega) dX1_lay_19 (by decide) (fun c19 => ?_) (fun c19 => ?_)
      · skip
        omega
      · skip
        refine g_aload_n k rfl dX1_lay_22 ?_
        refine g_get k 1 7 (C := RX1) (T := TX1) (N := 8) fl_X1_27 rfl wi_X1 (by decide) rfl ha__2 rfl dX1_lay_23 ?_
        refine g_aload_n k rfl dX1_lay_26 ?_
        refine g_aload_n k rfl dX1_lay_27 ?_
        refine g_get k 1 0 (C := RX1) (T := TX1) (N := 8) fl_X1_38 rfl wi_X1 (by decide) rfl ha__2 rfl dX1_lay_28 ?_
        refine g_cVi k 3 (As := [.ref b, vi (v : Int)]) v_X3_stretch rfl rfl hx__2 ml_X1_41 (c_X3_stretch (hF0.keep (fun q g1 g2 => fr__2 q (by omega))) hS (by omega) ⟨hx__2, hm__2⟩ (L1 := (v : Int)) (by omega)) (by omega) (by omega) rfl (Nat.le_of_ble_eq_true rfl) rfl dX1_lay_31 (fun r31 h31 p31 => ?_)
        obtain ⟨pz, ⟨nx1, nm⟩, nfr⟩ := p31
        have ha__3 : h31 a = some (ob 1 [vi (v : Int), vi g0, .ref (a + 1), .ref (a + 2), vi (it : Int), .ref (a + 3), .ref (a + 4), .ref (a + 5)]) := (nfr _ (by omega)).trans ha__2
        have ho__3 : h31 (a + 1) = some (ai G 8 RO) := (nfr _ (by omega)).trans ho__2
        have hp__3 : h31 (a + 2) = some (ai G 8 PR) := (nfr _ (by omega)).trans hp__2
        have ht__3 : h31 (a + 3) = some (ai G 8 ST) := (nfr _ (by omega)).trans ht__2
        have hq__3 : h31 (a + 4) = some (ai G 8 QU) := (nfr _ (by omega)).trans hq__2
        have hx__3 : h31 (a + 5) = some (ob 3 [vi (it : Int), .ref (a + 5 + 1)]) := nx1
        have hm__3 : h31 (a + 5 + 1) = some (ai G 64 (str φ v it)) := nm
        have hb__3 : h31 b = some (ob 0 [vi (it : Int), vi (φ.length : Int), .ref (b + 1), .ref (b + 2), .ref (b + 3)]) := (nfr _ (by omega)).trans hb__2
        have fr__3 : ∀ q : Nat, (q < a ∨ a + 6 < q) → h31 q = h q := fun q hq => (nfr q (by omega)).trans (fr__2 q hq)
        have pzr := pz.r
        refine g_if_ne k (tgt := 50) (by omega) dX1_lay_34 (by decide) (fun c34 => ?_) (fun c34 => ?_)
        · skip
          have eL : v = L := by
            rcases Nat.lt_or_ge v L with q | q
            · exact absurd (pz.t (by omega)) (l4 v (by omega) q)
            · omega
          subst eL
          refine g_iconst k dX1_lay_50 ?_
          refine g_istore_n k (lv2 := [(0, .ref a), (1, .ref b), (2, vi 0)]) (by decide) rfl rfl dX1_lay_51 ?_
          have K52 : ∀ (nz_1 : Nat) (u : Nat) (ST2 : Nat → Int) (h52 : Hp) (ha__4 : h52 a = some (ob 1 [vi (v : Int), vi g0, .ref (a + 1), .ref (a + 2), vi (it : Int), .ref (a + 3), .ref (a + 4), .ref (a + 5)])) (ho__4 : h52 (a + 1) = some (ai G 8 RO)) (hp__4 : h52 (a + 2) = some (ai G 8 PR)) (ht__4 : h52 (a + 3) = some (ai G 8 ST2)) (hq__4 : h52 (a + 4) = some (ai G 8 QU)) (hx__4 : h52 (a + 5) = some (ob 3 [vi (it : Int), .ref (a + 5 + 1)])) (hm__4 : h52 (a + 5 + 1) = some (ai G 64 (str φ v it))) (hb__4 : h52 b = some (ob 0 [vi (it : Int), vi (φ.length : Int), .ref (b + 1), .ref (b + 2), .ref (b + 3)])) (fr__4 : ∀ q : Nat, (q < a ∨ a + 6 < q) → h52 q = h q) (hu : u ≤ it) (hst : ∀ j, j < u → ST2 j = bgn φ it v j) (hmz_1 : it - u < nz_1), Go G X 3 QQ 0 0 nx 52 [(0, .ref a), (1, .ref b), (2, vi (u : Int))] [] h52 := by
            intro nz_1
            induction nz_1 with
            | zero => intro u ST2 h52 ha__4 ho__4 hp__4 ht__4 hq__4 hx__4 hm__4 hb__4 fr__4 hu hst hmz_1; exact absurd hmz_1 (Nat.not_lt_zero _)
            | succ nz_1 ih52 =>
              intro u ST2 h52 ha__4 ho__4 hp__4 ht__4 hq__4 hx__4 hm__4 hb__4 fr__4 hu hst hmz_1
              refine g_iload_n k rfl dX1_lay_52 ?_
              refine g_aload_n k rfl dX1_lay_53 ?_
              refine g_get k 1 4 (C := RX1) (T := TX1) (N := 8) fl_X1_37 rfl wi_X1 (by decide) rfl ha__4 rfl dX1_lay_54 ?_
              refine g_icmp_ge k (tgt := 80) (by omega) (by omega) dX1_lay_57 (by decide) (fun c57 => ?_) (fun c57 => ?_)
              · skip
                rw [← hQQ]
                refine g_retv k rfl dX1_lay_80 ?_
                have e : u = it := by omega
                subst e
                exact ⟨⟨ST2, ⟨ha__4, ho__4, hp__4, ht__4, hq__4⟩, hst⟩, ⟨hx__4, hm__4⟩, fr__4⟩
              · skip
                refine g_aload_n k rfl dX1_lay_60 ?_
                refine g_get k 1 5 (C := RX1) (T := TX1) (N := 8) fl_X1_18 rfl wi_X1 (by decide) rfl ha__4 rfl dX1_lay_61 ?_
                refine g_iload_n k rfl dX1_lay_64 ?_
                refine g_aload_n k rfl dX1_lay_65 ?_
                refine g_get k 1 7 (C := RX1) (T := TX1) (N := 8) fl_X1_27 rfl wi_X1 (by decide) rfl ha__4 rfl dX1_lay_66 ?_
                refine g_iload_n k rfl dX1_lay_69 ?_
                refine g_cVi k 3 (As := [vi (u : Int)]) v_X3_earliest rfl rfl hx__4 ml_X1_45 (c_X3_earliest ⟨hx__4, hm__4⟩ h8 hbd (by omega) (i1 := u) (by omega)) (by omega) (by omega) rfl (Nat.le_of_ble_eq_true rfl) rfl dX1_lay_70 (fun r70 h70 p70 => ?_)
                obtain ⟨eh70, p70⟩ := p70
                have eh70 := eh70.symm; subst eh70
                subst p70
                refine g_iast k u ht__4 (by omega) (by omega) (by decide) dX1_lay_73 (fun h73 eh73 => ?_)
                have ha__5 : h73 a = some (ob 1 [vi (v : Int), vi g0, .ref (a + 1), .ref (a + 2), vi (it : Int), .ref (a + 3), .ref (a + 4), .ref (a + 5)]) := (congrFun eh73 _).trans ((hup_n (by omega)).trans ha__4)
                have ho__5 : h73 (a + 1) = some (ai G 8 RO) := (congrFun eh73 _).trans ((hup_n (by omega)).trans ho__4)
                have hp__5 : h73 (a + 2) = some (ai G 8 PR) := (congrFun eh73 _).trans ((hup_n (by omega)).trans hp__4)
                have ht__5 : h73 (a + 3) = some (ai G 8 (fu ST2 u (bgn φ it v u))) := (congrFun eh73 _).trans hup_s
                have hq__5 : h73 (a + 4) = some (ai G 8 QU) := (congrFun eh73 _).trans ((hup_n (by omega)).trans hq__4)
                have hx__5 : h73 (a + 5) = some (ob 3 [vi (it : Int), .ref (a + 5 + 1)]) := (congrFun eh73 _).trans ((hup_n (by omega)).trans hx__4)
                have hm__5 : h73 (a + 5 + 1) = some (ai G 64 (str φ v it)) := (congrFun eh73 _).trans ((hup_n (by omega)).trans hm__4)
                have hb__5 : h73 b = some (ob 0 [vi (it : Int), vi (φ.length : Int), .ref (b + 1), .ref (b + 2), .ref (b + 3)]) := (congrFun eh73 _).trans ((hup_n (by omega)).trans hb__4)
                have fr__5 : ∀ q : Nat, (q < a ∨ a + 6 < q) → h73 q = h q := fun q hq => (congrFun eh73 q).trans ((hup_n (by omega)).trans (fr__4 q hq))
                refine g_iinc k (lv2 := [(0, .ref a), (1, .ref b), (2, vi ((u : Int) + 1))]) rfl (by decide) rfl rfl dX1_lay_74 ?_
                refine g_goto k (tgt := 52) dX1_lay_77 (by decide) ?_
                exact ih52 (u + 1) (fu ST2 u (bgn φ it v u)) h73 ha__5 ho__5 hp__5 ht__5 hq__5 hx__5 hm__5 hb__5 fr__5 (by omega) (lt_s2 (fun j hj => (fu_n (by omega)).trans (hst j hj)) fu_s) (by omega)
          exact K52 _ 0 ST h31 ha__3 ho__3 hp__3 ht__3 hq__3 hx__3 hm__3 hb__3 fr__3 (Nat.zero_le _) (fun j hj => absurd hj (Nat.not_lt_zero j)) (Nat.lt_succ_self _)
        · skip
          refine g_aload_n k rfl dX1_lay_37 ?_
          refine g_dup k rfl dX1_lay_38 ?_
          refine g_get k 1 0 (C := RX1) (T := TX1) (N := 8) fl_X1_38 rfl wi_X1 (by decide) rfl ha__3 rfl dX1_lay_39 ?_
          refine g_iconst k dX1_lay_42 ?_
          refine g_iadd k dX1_lay_43 ?_
          refine g_put k 1 0 (C := RX1) (T := TX1) (N := 8) fl_X1_38 rfl wi_X1 tyX1 tyX1_ok nmX1 (by decide) rfl rfl rfl rfl ha__3 (Nat.le_of_ble_eq_true rfl) (fs2 := [vi ((v : Int) + 1), vi g0, .ref (a + 1), .ref (a + 2), vi (it : Int), .ref (a + 3), .ref (a + 4), .ref (a + 5)]) rfl rfl dX1_lay_44 (fun h44 eh44 => ?_)
          have ha__6 : h44 a = some (ob 1 [vi ((v : Int) + 1), vi g0, .ref (a + 1), .ref (a + 2), vi (it : Int), .ref (a + 3), .ref (a + 4), .ref (a + 5)]) := (congrFun eh44 _).trans hup_s
          have ho__6 : h44 (a + 1) = some (ai G 8 RO) := (congrFun eh44 _).trans ((hup_n (by omega)).trans ho__3)
          have hp__6 : h44 (a + 2) = some (ai G 8 PR) := (congrFun eh44 _).trans ((hup_n (by omega)).trans hp__3)
          have ht__6 : h44 (a + 3) = some (ai G 8 ST) := (congrFun eh44 _).trans ((hup_n (by omega)).trans ht__3)
          have hq__6 : h44 (a + 4) = some (ai G 8 QU) := (congrFun eh44 _).trans ((hup_n (by omega)).trans hq__3)
          have hx__6 : h44 (a + 5) = some (ob 3 [vi (it : Int), .ref (a + 5 + 1)]) := (congrFun eh44 _).trans ((hup_n (by omega)).trans hx__3)
          have hm__6 : h44 (a + 5 + 1) = some (ai G 64 (str φ v it)) := (congrFun eh44 _).trans ((hup_n (by omega)).trans hm__3)
          have hb__6 : h44 b = some (ob 0 [vi (it : Int), vi (φ.length : Int), .ref (b + 1), .ref (b + 2), .ref (b + 3)]) := (congrFun eh44 _).trans ((hup_n (by omega)).trans hb__3)
          have fr__6 : ∀ q : Nat, (q < a ∨ a + 6 < q) → h44 q = h q := fun q hq => (congrFun eh44 q).trans ((hup_n (by omega)).trans (fr__3 q hq))
          refine g_goto k (tgt := 13) dX1_lay_47 (by decide) ?_
          have hne : v ≠ L := fun e => by subst e; exact (pz.f (by omega)) l3
          exact ih13 (v + 1) it (str φ v it) h44 ha__6 ho__6 hp__6 ht__6 hq__6 hx__6 hm__6 hb__6 fr__6 (by omega) (by omega)
  exact K13 _ 1 it0 M h10 ha__1 ho__1 hp__1 ht__1 hq__1 hx__1 hm__1 hb__1 fr__1 (by omega) (Nat.lt_succ_self _)

/-- the numbers of a state of the order: its begins are small -/
def OK8 (B : Nat → Int) (it : Nat) : Prop := it ≤ 8 ∧ ∀ v, v < it → 0 ≤ B v ∧ B v ≤ 100000
def pre (B : Nat → Int) (L : Int) (x y : Nat) : Prop := B x + L ≤ B y
def bitN (s k : Nat) : Prop := s / 2 ^ k % 2 = 1
def unF (B : Nat → Int) (L : Int) (it s : Nat) (ch : Prop) : Prop := ∀ x y, x < y → y < it → bitN s x → bitN s y → ((pre B L x y ∨ pre B L y x) ↔ ch)
noncomputable def gsF (U : Nat → Prop) : Nat → Nat
  | 0 => 0
  | n + 1 => haveI := Classical.propDecidable (1 ≤ n ∧ pc8 (gsF U n) < pc8 n ∧ U n); if 1 ≤ n ∧ pc8 (gsF U n) < pc8 n ∧ U n then n else gsF U n
theorem gsF_lt (U : Nat → Prop) : ∀ n, gsF U n < n ∨ gsF U n = 0
  | 0 => Or.inr rfl
  | n + 1 => by have := gsF_lt U n; unfold gsF; split <;> omega
theorem pw8 {n : Nat} (h : n ≤ 8) : 1 ≤ 2 ^ n ∧ 2 ^ n ≤ 256 := by
  have : ∀ n : Nat, n < 9 → 1 ≤ 2 ^ n ∧ 2 ^ n ≤ 256 := by decide
  exact this n (by omega)
theorem pc8_le (n : Nat) : pc8 n ≤ 8 := by unfold pc8; omega
set_option maxHeartbeats 600000 in
set_option maxRecDepth 100000 in
theorem c_X1_precedes {G : Gx} {h : Hp} {nx a : Nat} {L0 g0 i0 : Int} {RO PR ST QU : Nat → Int} (hA : OA G h a L0 g0 i0 RO PR ST QU) {it : Nat} (hi : i0 = it) {B : Nat → Int} (hO : OK8 B it) (hB : ∀ v, v < it → ST v = B v) (hL : 1 ≤ L0 ∧ L0 ≤ 60) {x y : Nat} (hx : x < it) (hy : y < it) : Con G yX1_precedes cX1_precedes 3 (some .boolean) 1 0 0 [.ref a, vi (x : Int), vi (y : Int)] h nx (PI fun z h' => h' = h ∧ bz (pre B L0 x y) z) := by
  obtain ⟨ha, ho, hp, ht, hq⟩ := hA
  have b1 := hO.2 x hx
  have b2 := hO.2 y hy
  have h8 := hO.1
  refine Con.of v_X1_precedes.2.2.2.2.2.1 (Nat.le_of_ble_eq_true rfl) (lv := [(0, .ref a), (1, vi (x : Int)), (2, vi (y : Int))]) rfl (fun X k => ?_)
  generalize hQQ : QM G X nx 0 0 _ = QQ
  refine g_aload_n k rfl dX1_precedes_0 ?_
  refine g_get k 1 5 (C := RX1) (T := TX1) (N := 8) fl_X1_18 rfl wi_X1 (by decide) rfl ha rfl dX1_precedes_1 ?_
  refine g_iload_n k rfl dX1_precedes_4 ?_
  refine g_iald k x ht (by omega) (by omega) (by decide) dX1_precedes_5 ?_
  rw [show ST x = B x from (hB _ (by omega))]
  refine g_aload_n k rfl dX1_precedes_6 ?_
  refine g_get k 1 0 (C := RX1) (T := TX1) (N := 8) fl_X1_38 rfl wi_X1 (by decide) rfl ha rfl dX1_precedes_7 ?_
  refine g_iadd k dX1_precedes_10 ?_
  refine g_aload_n k rfl dX1_precedes_11 ?_
  refine g_get k 1 5 (C := RX1) (T := TX1) (N := 8) fl_X1_18 rfl wi_X1 (by decide) rfl ha rfl dX1_precedes_12 ?_
  refine g_iload_n k rfl dX1_precedes_15 ?_
  refine g_iald k y ht (by omega) (by omega) (by decide) dX1_precedes_16 ?_
  rw [show ST y = B y from (hB _ (by omega))]
  refine g_icmp_gt k (tgt := 24) (by omega) (by omega) dX1_precedes_17 (by decide) (fun c17 => ?_) (fun c17 => ?_)
  · skip
    refine g_iconst k dX1_precedes_24 ?_
    rw [← hQQ]
    refine g_zreti k (by omega) rfl dX1_precedes_25 ?_
    exact ⟨rfl, bz.n (by unfold pre; omega)⟩
  · skip
    refine g_iconst k dX1_precedes_20 ?_
    refine g_goto k (tgt := 25) dX1_precedes_21 (by decide) ?_
    rw [← hQQ]
    refine g_zreti k (by omega) rfl dX1_precedes_25 ?_
    exact ⟨rfl, bz.y (by unfold pre; omega)⟩

set_option maxHeartbeats 600000 in
set_option maxRecDepth 100000 in
theorem c_X1_isUniform {G : Gx} {h : Hp} {nx a : Nat} {L0 g0 i0 : Int} {RO PR ST QU : Nat → Int} (hA : OA G h a L0 g0 i0 RO PR ST QU) {it : Nat} (hi : i0 = it) {B : Nat → Int} (hO : OK8 B it) (hB : ∀ v, v < it → ST v = B v) (hL : 1 ≤ L0 ∧ L0 ≤ 60) {s1 : Nat} (hs : s1 < 256) {ch : Prop} {cz : Int} (hc : bz ch cz) : Con G yX1_isUniform cX1_isUniform 6 (some .boolean) 2 0 0 [.ref a, vi (s1 : Int), vi cz] h nx (PI fun z h' => h' = h ∧ bz (unF B L0 it s1 ch) z) := by
  have hA0 := hA
  obtain ⟨ha, ho, hp, ht, hq⟩ := hA
  subst hi
  have h8 := hO.1
  have hcr := hc.r
  refine Con.of v_X1_isUniform.2.2.2.2.2.1 (Nat.le_of_ble_eq_true rfl) (lv := [(0, .ref a), (1, vi (s1 : Int)), (2, vi cz)]) rfl (fun X k => ?_)
  generalize hQQ : QM G X nx 0 0 _ = QQ
  refine g_iconst k dX1_isUniform_0 ?_
  refine g_istore_n k (lv2 := [(0, .ref a), (1, vi (s1 : Int)), (2, vi cz), (3, vi 0)]) (by decide) rfl rfl dX1_isUniform_1 ?_
  have K2 : ∀ (nz : Nat) (x : Nat) (hx : x ≤ it) (hn : ∀ u, u < x → ∀ v, u < v → v < it → bitN s1 u → bitN s1 v → ((pre B L0 u v ∨ pre B L0 v u) ↔ ch)) (hmz : it - x < nz), Go G X 6 QQ 0 0 nx 2 [(0, .ref a), (1, vi (s1 : Int)), (2, vi cz), (3, vi (x : Int))] [] h := by
    intro nz
    induction nz with
    | zero => intro x hx hn hmz; exact absurd hmz (Nat.not_lt_zero _)
    | succ nz ih2 =>
      intro x hx hn hmz
      refine g_iload_n k rfl dX1_isUniform_2 ?_
      refine g_aload_n k rfl dX1_isUniform_3 ?_
      refine g_get k 1 4 (C := RX1) (T := TX1) (N := 8) fl_X1_37 rfl wi_X1 (by decide) rfl ha rfl dX1_isUniform_4 ?_
      refine g_icmp_ge k (tgt := 98) (by omega) (by omega) dX1_isUniform_7 (by decide) (fun c7 => ?_) (fun c7 => ?_)
      · skip
        refine g_iconst k dX1_isUniform_98 ?_
        rw [← hQQ]
        refine g_zreti k (by omega) rfl dX1_isUniform_99 ?_
        exact ⟨rfl, bz.y (fun u v g1 g2 => hn u (by omega) v g1 g2)⟩
      · skip
        have px := pw8 (n := x) (by omega)
        refine g_iload_n k rfl dX1_isUniform_10 ?_
        refine g_iconst k dX1_isUniform_11 ?_
        refine g_iadd k dX1_isUniform_12 ?_
        refine g_istore k (lv2 := [(0, .ref a), (1, vi (s1 : Int)), (2, vi cz), (3, vi (x : Int)), (4, vi ((x : Int) + 1))]) (by decide) rfl rfl dX1_isUniform_13 ?_
        have K15 : ∀ (nz_1 : Nat) (y : Nat) (hy : x < y ∧ y ≤ it) (hm2 : ∀ v, x < v → v < y → bitN s1 x → bitN s1 v → ((pre B L0 x v ∨ pre B L0 v x) ↔ ch)) (hmz_1 : it - y < nz_1), Go G X 6 QQ 0 0 nx 15 [(0, .ref a), (1, vi (s1 : Int)), (2, vi cz), (3, vi (x : Int)), (4, vi (y : Int))] [] h := by
          intro nz_1
          induction nz_1 with
          | zero => intro y hy hm2 hmz_1; exact absurd hmz_1 (Nat.not_lt_zero _)
          | succ nz_1 ih15 =>
            intro y hy hm2 hmz_1
            refine g_iload k rfl dX1_isUniform_15 ?_
            refine g_aload_n k rfl dX1_isUniform_17 ?_
            refine g_get k 1 4 (C := RX1) (T := TX1) (N := 8) fl_X1_37 rfl wi_X1 (by decide) rfl ha rfl dX1_isUniform_18 ?_
            refine g_icmp_ge k (tgt := 92) (by omega) (by omega) dX1_isUniform_21 (by decide) (fun c21 => ?_) (fun c21 => ?_)
            · skip
              refine g_iinc k (lv2 := [(0, .ref a), (1, vi (s1 : Int)), (2, vi cz), (3, vi ((x : Int) + 1)), (4, vi (y : Int))]) rfl (by decide) rfl rfl dX1_isUniform_92 ?_
              refine g_goto k (tgt := 2) dX1_isUniform_95 (by decide) ?_
              refine g_less (lv2 := [(0, .ref a), (1, vi (s1 : Int)), (2, vi cz), (3, vi ((x : Int) + 1))]) ⟨rfl, rfl, rfl, rfl, trivial⟩ ?_
              exact ih2 (x + 1) (by omega) (lt_s2 hn (fun v g1 g2 => hm2 v g1 (by omega))) (by omega)
            · skip
              have py := pw8 (n := y) (by omega)
              have bx2 : s1 / 2 ^ x % 2 < 2 := Nat.mod_lt _ (by decide)
              have by2 : s1 / 2 ^ y % 2 < 2 := Nat.mod_lt _ (by decide)
              have K48 : ∀ (z5 : Int) (hz5 : bz (bitN s1 x ∧ bitN s1 y) z5), Go G X 6 QQ 0 0 nx 48 [(0, .ref a), (1, vi (s1 : Int)), (2, vi cz), (3, vi (x : Int)), (4, vi (y : Int))] [vi z5] h := by
                intro z5 hz5
                have hz5r := hz5.r
                refine g_istore k (lv2 := [(0, .ref a), (1, vi (s1 : Int)), (2, vi cz), (3, vi (x : Int)), (4, vi (y : Int)), (5, vi z5)]) (by decide) rfl rfl dX1_isUniform_48 ?_
                refine g_iload k rfl dX1_isUniform_50 ?_
                refine g_if_eq k (tgt := 86) (by omega) dX1_isUniform_52 (by decide) (fun c52 => ?_) (fun c52 => ?_)
                · skip
                  refine g_iinc k (lv2 := [(0, .ref a), (1, vi (s1 : Int)), (2, vi cz), (3, vi (x : Int)), (4, vi ((y : Int) + 1)), (5, vi z5)]) rfl (by decide) rfl rfl dX1_isUniform_86 ?_
                  refine g_goto k (tgt := 15) dX1_isUniform_89 (by decide) ?_
                  refine g_less (lv2 := [(0, .ref a), (1, vi (s1 : Int)), (2, vi cz), (3, vi (x : Int)), (4, vi ((y : Int) + 1))]) ⟨rfl, rfl, rfl, rfl, rfl, trivial⟩ ?_
                  exact ih15 (y + 1) (by omega) (fun v g1 g2 => by rcases (show v < y ∨ v = y by omega) with q | rfl; exact hm2 v g1 q; exact fun q1 q2 => absurd ⟨q1, q2⟩ (hz5.f (by omega))) (by omega)
                · skip
                  have K80 : ∀ (z6 : Int) (hz6 : bz (pre B L0 x y ∨ pre B L0 y x) z6), Go G X 6 QQ 0 0 nx 80 [(0, .ref a), (1, vi (s1 : Int)), (2, vi cz), (3, vi (x : Int)), (4, vi (y : Int)), (5, vi z5)] [vi z6] h := by
                    intro z6 hz6
                    have hz6r := hz6.r
                    refine g_iload_n k rfl dX1_isUniform_80 ?_
                    refine g_icmp_eq k (tgt := 86) (by omega) (by omega) dX1_isUniform_81 (by decide) (fun c81 => ?_) (fun c81 => ?_)
                    · skip
                      refine g_iinc k (lv2 := [(0, .ref a), (1, vi (s1 : Int)), (2, vi cz), (3, vi (x : Int)), (4, vi ((y : Int) + 1)), (5, vi z5)]) rfl (by decide) rfl rfl dX1_isUniform_86 ?_
                      refine g_goto k (tgt := 15) dX1_isUniform_89 (by decide) ?_
                      refine g_less (lv2 := [(0, .ref a), (1, vi (s1 : Int)), (2, vi cz), (3, vi (x : Int)), (4, vi ((y : Int) + 1))]) ⟨rfl, rfl, rfl, rfl, rfl, trivial⟩ ?_
                      exact ih15 (y + 1) (by omega) (fun v g1 g2 => by rcases (show v < y ∨ v = y by omega) with q | rfl; exact hm2 v g1 q; exact fun _ _ => ⟨fun q => by rcases hz6 with z | z; exact hc.t (by omega); exact absurd q z.1, fun q => by rcases hc with z | z; exact hz6.t (by omega); exact absurd q z.1⟩) (by omega)
                    · skip
                      refine g_iconst k dX1_isUniform_84 ?_
                      rw [← hQQ]
                      refine g_zreti k (by omega) rfl dX1_isUniform_85 ?_
                      refine ⟨rfl, bz.n (fun q => ?_)⟩
                      have h5 := hz5.t (by omega)
                      have h6 := q x y (by omega) (by omega) h5.1 h5.2
                      rcases hz6 with z | z <;> rcases hc with z2 | z2
                      · omega
                      · exact z2.1 (h6.mp z.1)
                      · exact z.1 (h6.mpr z2.1)
                      · omega
                  refine g_aload_n k rfl dX1_isUniform_55 ?_
                  refine g_iload_n k rfl dX1_isUniform_56 ?_
                  refine g_iload k rfl dX1_isUniform_57 ?_
                  refine g_cVi k 1 (As := [vi (x : Int), vi (y : Int)]) v_X1_precedes rfl rfl ha ml_X1_58 (c_X1_precedes ⟨ha, ho, hp, ht, hq⟩ rfl hO hB hL (x := x) (y := y) (by omega) (by omega)) (by omega) (by omega) rfl (Nat.le_of_ble_eq_true rfl) rfl dX1_isUniform_59 (fun r59 h59 p59 => ?_)
                  obtain ⟨eh59, p59⟩ := p59
                  have eh59 := eh59.symm; subst eh59
                  have q59 := p59
                  have q59r := q59.r
                  refine g_if_ne k (tgt := 75) (by omega) dX1_isUniform_62 (by decide) (fun c62 => ?_) (fun c62 => ?_)
                  · skip
                    refine g_iconst k dX1_isUniform_75 ?_
                    refine g_goto k (tgt := 80) dX1_isUniform_76 (by decide) ?_
                    exact K80 _ (bz.y (Or.inl (q59.t (by omega))))
                  · skip
                    refine g_aload_n k rfl dX1_isUniform_65 ?_
                    refine g_iload k rfl dX1_isUniform_66 ?_
                    refine g_iload_n k rfl dX1_isUniform_68 ?_
                    refine g_cVi k 1 (As := [vi (y : Int), vi (x : Int)]) v_X1_precedes rfl rfl ha ml_X1_58 (c_X1_precedes ⟨ha, ho, hp, ht, hq⟩ rfl hO hB hL (x := y) (y := x) (by omega) (by omega)) (by omega) (by omega) rfl (Nat.le_of_ble_eq_true rfl) rfl dX1_isUniform_69 (fun r69 h69 p69 => ?_)
                    obtain ⟨eh69, p69⟩ := p69
                    have eh69 := eh69.symm; subst eh69
                    have q69 := p69
                    have q69r := q69.r
                    refine g_if_eq k (tgt := 79) (by omega) dX1_isUniform_72 (by decide) (fun c72 => ?_) (fun c72 => ?_)
                    · skip
                      refine g_iconst k dX1_isUniform_79 ?_
                      exact K80 _ (bz.n (fun q => q.elim (q59.f (by omega)) (q69.f (by omega))))
                    · skip
                      refine g_iconst k dX1_isUniform_75 ?_
                      refine g_goto k (tgt := 80) dX1_isUniform_76 (by decide) ?_
                      exact K80 _ (bz.y (Or.inr (q69.t (by omega))))
              refine g_iload_n k rfl dX1_isUniform_24 ?_
              refine g_iload_n k rfl dX1_isUniform_25 ?_
              refine g_ishr k (by omega) (by omega) dX1_isUniform_26 ?_
              refine g_iconst k dX1_isUniform_27 ?_
              refine g_iandm k 1 (by decide) (by decide) dX1_isUniform_28 ?_
              rw [show ((s1 : Int) / 2 ^ ((x : Int)).toNat) % 2 ^ 1 = ((s1 / 2 ^ x % 2 : Nat) : Int) from ibit]
              refine g_iconst k dX1_isUniform_29 ?_
              refine g_icmp_ne k (tgt := 47) (by omega) (by omega) dX1_isUniform_30 (by decide) (fun c30 => ?_) (fun c30 => ?_)
              · skip
                refine g_iconst k dX1_isUniform_47 ?_
                exact K48 _ (bz.n (fun q => by have := q.1; unfold bitN at this; omega))
              · skip
                refine g_iload_n k rfl dX1_isUniform_33 ?_
                refine g_iload k rfl dX1_isUniform_34 ?_
                refine g_ishr k (by omega) (by omega) dX1_isUniform_36 ?_
                refine g_iconst k dX1_isUniform_37 ?_
                refine g_iandm k 1 (by decide) (by decide) dX1_isUniform_38 ?_
                rw [show ((s1 : Int) / 2 ^ ((y : Int)).toNat) % 2 ^ 1 = ((s1 / 2 ^ y % 2 : Nat) : Int) from ibit]
                refine g_iconst k dX1_isUniform_39 ?_
                refine g_icmp_ne k (tgt := 47) (by omega) (by omega) dX1_isUniform_40 (by decide) (fun c40 => ?_) (fun c40 => ?_)
                · skip
                  refine g_iconst k dX1_isUniform_47 ?_
                  exact K48 _ (bz.n (fun q => by have := q.2; unfold bitN at this; omega))
                · skip
                  refine g_iconst k dX1_isUniform_43 ?_
                  refine g_goto k (tgt := 48) dX1_isUniform_44 (by decide) ?_
                  exact K48 _ (bz.y ⟨by unfold bitN; omega, by unfold bitN; omega⟩)
        exact K15 _ (x + 1) (by omega) (fun v g1 g2 => by omega) (Nat.lt_succ_self _)
  exact K2 _ 0 (Nat.zero_le _) (fun j hj => absurd hj (Nat.not_lt_zero j)) (Nat.lt_succ_self _)

set_option maxHeartbeats 600000 in
set_option maxRecDepth 100000 in
theorem c_X1_greatestSet {G : Gx} {h : Hp} {nx a : Nat} {L0 g0 i0 : Int} {RO PR ST QU : Nat → Int} (hA : OA G h a L0 g0 i0 RO PR ST QU) {it : Nat} (hi : i0 = it) {B : Nat → Int} (hO : OK8 B it) (hB : ∀ v, v < it → ST v = B v) (hL : 1 ≤ L0 ∧ L0 ≤ 60) {ch : Prop} {cz : Int} (hc : bz ch cz) : Con G yX1_greatestSet cX1_greatestSet 4 (some .int) 3 0 0 [.ref a, vi cz] h nx (PI fun z h' => h' = h ∧ z = (gsF (fun s => unF B L0 it s ch) (2 ^ it) : Nat)) := by
  have hA0 := hA
  obtain ⟨ha, ho, hp, ht, hq⟩ := hA
  subst hi
  have h8 := hO.1
  have hp8 := pw8 (n := it) h8
  have hcr := hc.r
  refine Con.of v_X1_greatestSet.2.2.2.2.2.1 (Nat.le_of_ble_eq_true rfl) (lv := [(0, .ref a), (1, vi cz)]) rfl (fun X k => ?_)
  generalize hQQ : QM G X nx 0 0 _ = QQ
  refine g_iconst k dX1_greatestSet_0 ?_
  refine g_istore_n k (lv2 := [(0, .ref a), (1, vi cz), (2, vi 0)]) (by decide) rfl rfl dX1_greatestSet_1 ?_
  refine g_iconst k dX1_greatestSet_2 ?_
  refine g_istore_n k (lv2 := [(0, .ref a), (1, vi cz), (2, vi 0), (3, vi 1)]) (by decide) rfl rfl dX1_greatestSet_3 ?_
  have K4 : ∀ (nz : Nat) (v : Nat) (hv : 1 ≤ v ∧ v ≤ 2 ^ it) (hmz : 2 ^ it - v < nz), Go G X 4 QQ 0 0 nx 4 [(0, .ref a), (1, vi cz), (2, vi (gsF (fun s => unF B L0 it s ch) v : Int)), (3, vi (v : Int))] [] h := by
    intro nz
    induction nz with
    | zero => intro v hv hmz; exact absurd hmz (Nat.not_lt_zero _)
    | succ nz ih4 =>
      intro v hv hmz
      have hgl := gsF_lt (fun s => unF B L0 it s ch) v
      refine g_iload_n k rfl dX1_greatestSet_4 ?_
      refine g_iconst k dX1_greatestSet_5 ?_
      refine g_aload_n k rfl dX1_greatestSet_6 ?_
      refine g_get k 1 4 (C := RX1) (T := TX1) (N := 8) fl_X1_37 rfl wi_X1 (by decide) rfl ha rfl dX1_greatestSet_7 ?_
      refine g_ishl k (by omega) dX1_greatestSet_10 ?_
      rw [show 1 * 2 ^ ((it : Int)).toNat = ((2 ^ it : Nat) : Int) from (by rw [Int.toNat_natCast, Int.natCast_pow, Int.one_mul]; rfl)]
      refine g_icmp_ge k (tgt := 42) (by omega) (by omega) dX1_greatestSet_11 (by decide) (fun c11 => ?_) (fun c11 => ?_)
      · skip
        refine g_iload_n k rfl dX1_greatestSet_42 ?_
        rw [← hQQ]
        refine g_ireti k rfl dX1_greatestSet_43 ?_
        have e : v = 2 ^ it := by omega
        exact ⟨rfl, by rw [e]⟩
      · skip
        have k1 := pc8_le v
        have k2 := pc8_le (gsF (fun s => unF B L0 it s ch) v)
        refine g_iload_n k rfl dX1_greatestSet_14 ?_
        refine g_cSi k (As := [vi (v : Int)]) v_J6_bitCount_0f7a4 ml_X1_49 (c_J6_bitCount (n := v) (by omega)) (by omega) (by omega) rfl (Nat.le_of_ble_eq_true rfl) rfl dX1_greatestSet_15 (fun r15 h15 p15 => ?_)
        obtain ⟨eh15, p15⟩ := p15
        have eh15 := eh15.symm; subst eh15
        subst p15
        refine g_iload_n k rfl dX1_greatestSet_18 ?_
        refine g_cSi k (As := [vi (gsF (fun s => unF B L0 it s ch) v : Int)]) v_J6_bitCount_0f7a4 ml_X1_49 (c_J6_bitCount (n := gsF (fun s => unF B L0 it s ch) v) (by omega)) (by omega) (by omega) rfl (Nat.le_of_ble_eq_true rfl) rfl dX1_greatestSet_19 (fun r19 h19 p19 => ?_)
        obtain ⟨eh19, p19⟩ := p19
        have eh19 := eh19.symm; subst eh19
        subst p19
        refine g_icmp_le k (tgt := 36) (by omega) (by omega) dX1_greatestSet_22 (by decide) (fun c22 => ?_) (fun c22 => ?_)
        · skip
          refine g_iinc k (lv2 := [(0, .ref a), (1, vi cz), (2, vi (gsF (fun s => unF B L0 it s ch) v : Int)), (3, vi ((v : Int) + 1))]) rfl (by decide) rfl rfl dX1_greatestSet_36 ?_
          refine g_goto k (tgt := 4) dX1_greatestSet_39 (by decide) ?_
          rw [show gsF (fun s => unF B L0 it s ch) v = gsF (fun s => unF B L0 it s ch) (v + 1) by rw [gsF, if_neg (by omega)]]
          exact ih4 (v + 1) (by omega) (by omega)
        · skip
          refine g_aload_n k rfl dX1_greatestSet_25 ?_
          refine g_iload_n k rfl dX1_greatestSet_26 ?_
          refine g_iload_n k rfl dX1_greatestSet_27 ?_
          refine g_cVi k 1 (As := [vi (v : Int), vi cz]) v_X1_isUniform rfl rfl ha ml_X1_54 (c_X1_isUniform ⟨ha, ho, hp, ht, hq⟩ rfl hO hB hL (s1 := v) (by omega) hc) (by omega) (by omega) rfl (Nat.le_of_ble_eq_true rfl) rfl dX1_greatestSet_28 (fun r28 h28 p28 => ?_)
          obtain ⟨eh28, p28⟩ := p28
          have eh28 := eh28.symm; subst eh28
          have q28 := p28
          have q28r := q28.r
          refine g_if_eq k (tgt := 36) (by omega) dX1_greatestSet_31 (by decide) (fun c31 => ?_) (fun c31 => ?_)
          · skip
            refine g_iinc k (lv2 := [(0, .ref a), (1, vi cz), (2, vi (gsF (fun s => unF B L0 it s ch) v : Int)), (3, vi ((v : Int) + 1))]) rfl (by decide) rfl rfl dX1_greatestSet_36 ?_
            refine g_goto k (tgt := 4) dX1_greatestSet_39 (by decide) ?_
            rw [show gsF (fun s => unF B L0 it s ch) v = gsF (fun s => unF B L0 it s ch) (v + 1) by rw [gsF, if_neg (fun z => q28.f (by omega) z.2.2)]]
            exact ih4 (v + 1) (by omega) (by omega)
          · skip
            refine g_iload_n k rfl dX1_greatestSet_34 ?_
            refine g_istore_n k (lv2 := [(0, .ref a), (1, vi cz), (2, vi (v : Int)), (3, vi (v : Int))]) (by decide) rfl rfl dX1_greatestSet_35 ?_
            refine g_iinc k (lv2 := [(0, .ref a), (1, vi cz), (2, vi (v : Int)), (3, vi ((v : Int) + 1))]) rfl (by decide) rfl rfl dX1_greatestSet_36 ?_
            refine g_goto k (tgt := 4) dX1_greatestSet_39 (by decide) ?_
            have eg : gsF (fun s => unF B L0 it s ch) (v + 1) = v := by rw [gsF, if_pos ⟨by omega, by omega, q28.t (by omega)⟩]
            refine g_less (lv2 := [(0, .ref a), (1, vi cz), (2, vi (gsF (fun s => unF B L0 it s ch) (v + 1) : Int)), (3, vi ((v : Int) + 1))]) ⟨rfl, rfl, (by rw [eg]; rfl), rfl, trivial⟩ ?_
            exact ih4 (v + 1) (by omega) (by omega)
  rw [show (0 : Int) = (gsF (fun s => unF B L0 it s ch) 1 : Nat) by rw [gsF, if_neg (fun z => absurd z.1 (by decide))]; rfl]
  exact K4 _ 1 (by omega) (Nat.lt_succ_self _)

/-- sorted by begins, of like ones by numbers -/
def lx (B : Nat → Int) (x y : Nat) : Prop := B x < B y ∨ (B x = B y ∧ x < y)
def Srt (B : Nat → Int) (Q : Nat → Nat) (n : Nat) : Prop := (∀ i, i < n → Q i < n) ∧ ∀ i j, i < j → j < n → lx B (Q i) (Q j)
def insF {α : Type} (Q : Nat → α) (p : Nat) (v : α) (j : Nat) : α := if j < p then Q j else if j = p then v else Q (j - 1)
theorem Srt.ins {B : Nat → Int} {Q : Nat → Nat} {v p : Nat} (h : Srt B Q v) (hp : p ≤ v) (h1 : ∀ j, p ≤ j → j < v → B v < B (Q j)) (h2 : 0 < p → B (Q (p - 1)) ≤ B v) : Srt B (insF Q p v) (v + 1) := by
  obtain ⟨a1, a2⟩ := h
  refine ⟨fun i hi => ?_, fun i j hij hj => ?_⟩
  · unfold insF
    split
    · have := a1 i (by omega); omega
    · split
      · omega
      · have := a1 (i - 1) (by omega); omega
  · have low : ∀ i, i < p → B (Q i) ≤ B v := fun i hi => by
      rcases (show i < p - 1 ∨ i = p - 1 by omega) with q | rfl
      · have := a2 i (p - 1) q (by omega)
        have := h2 (by omega)
        unfold lx at this
        rcases ‹lx B (Q i) (Q (p - 1))› with z | z <;> omega
      · exact h2 (by omega)
    unfold insF
    by_cases c1 : j < p
    · rw [if_pos (by omega), if_pos c1]; exact a2 i j hij (by omega)
    · by_cases c2 : j = p
      · subst c2
        rw [if_pos (by omega), if_neg (by omega), if_pos rfl]
        have := low i (by omega)
        have := a1 i (by omega)
        unfold lx; omega
      · rw [if_neg c1, if_neg c2]
        by_cases c3 : i < p
        · rw [if_pos c3]; exact a2 i (j - 1) (by omega) (by omega)
        · rw [if_neg c3]
          by_cases c4 : i = p
          · rw [if_pos c4]; exact Or.inl (h1 (j - 1) (by omega) (by omega))
          · rw [if_neg c4]; exact a2 (i - 1) (j - 1) (by omega) (by omega)
set_option maxHeartbeats 600000 in
set_option maxRecDepth 100000 in
theorem c_X1_fillQueue {G : Gx} {h : Hp} {nx a : Nat} {L0 g0 i0 : Int} {RO PR ST QU : Nat → Int} (hA : OA G h a L0 g0 i0 RO PR ST QU) {it : Nat} (hi : i0 = it) {B : Nat → Int} (hO : OK8 B it) (hB : ∀ v, v < it → ST v = B v) (hL : 1 ≤ L0 ∧ L0 ≤ 60) : Con G yX1_fillQueue cX1_fillQueue 3 none 1 0 0 [.ref a] h nx (PV fun h' => (∃ (Q2 : Nat → Nat) (QU2 : Nat → Int), h' (a + 4) = some (ai G 8 QU2) ∧ Srt B Q2 it ∧ ∀ j, j < it → QU2 j = Q2 j) ∧ ∀ q : Nat, (q < a + 4 ∨ a + 4 < q) → h' q = h q) := by
  have hA0 := hA
  obtain ⟨ha, ho, hp, ht, hq⟩ := hA
  subst hi
  have h8 := hO.1
  refine Con.of v_X1_fillQueue.2.2.2.2.2.1 (Nat.le_of_ble_eq_true rfl) (lv := [(0, .ref a)]) rfl (fun X k => ?_)
  generalize hQQ : QM G X nx 0 0 _ = QQ
  have fr0 : ∀ q : Nat, (q < a + 4 ∨ a + 4 < q) → h q = h q := fun _ _ => rfl
  refine g_iconst k dX1_fillQueue_0 ?_
  refine g_istore_n k (lv2 := [(0, .ref a), (1, vi 0)]) (by decide) rfl rfl dX1_fillQueue_1 ?_
  have K2 : ∀ (nz : Nat) (v : Nat) (Q2 : Nat → Nat) (Z : Nat → Int) (h2 : Hp) (ha_ : h2 a = some (ob 1 [vi L0, vi g0, .ref (a + 1), .ref (a + 2), vi (it : Int), .ref (a + 3), .ref (a + 4), .ref (a + 5)])) (ho_ : h2 (a + 1) = some (ai G 8 RO)) (hp_ : h2 (a + 2) = some (ai G 8 PR)) (ht_ : h2 (a + 3) = some (ai G 8 ST)) (hq_ : h2 (a + 4) = some (ai G 8 Z)) (fr_ : ∀ q : Nat, (q < a + 4 ∨ a + 4 < q) → h2 q = h q) (hv : v ≤ it) (hsr : Srt B Q2 v) (hz : ∀ j, j < v → Z j = Q2 j) (hmz : it - v < nz), Go G X 3 QQ 0 0 nx 2 [(0, .ref a), (1, vi (v : Int))] [] h2 := by
    intro nz
    induction nz with
    | zero => intro v Q2 Z h2 ha_ ho_ hp_ ht_ hq_ fr_ hv hsr hz hmz; exact absurd hmz (Nat.not_lt_zero _)
    | succ nz ih2 =>
      intro v Q2 Z h2 ha_ ho_ hp_ ht_ hq_ fr_ hv hsr hz hmz
      refine g_iload_n k rfl dX1_fillQueue_2 ?_
      refine g_aload_n k rfl dX1_fillQueue_3 ?_
      refine g_get k 1 4 (C := RX1) (T := TX1) (N := 8) fl_X1_37 rfl wi_X1 (by decide) rfl ha_ rfl dX1_fillQueue_4 ?_
      refine g_icmp_ge k (tgt := 71) (by omega) (by omega) dX1_fillQueue_7 (by decide) (fun c7 => ?_) (fun c7 => ?_)
      · skip
        rw [← hQQ]
        refine g_retv k rfl dX1_fillQueue_71 ?_
        have e : v = it := by omega
        subst e
        exact ⟨⟨Q2, Z, hq_, hsr, hz⟩, fr_⟩
      · skip
        have b1 := hO.2 v (by omega)
        refine g_iload_n k rfl dX1_fillQueue_10 ?_
        refine g_istore_n k (lv2 := [(0, .ref a), (1, vi (v : Int)), (2, vi (v : Int))]) (by decide) rfl rfl dX1_fillQueue_11 ?_
        have K12 : ∀ (nz_1 : Nat) (p : Nat) (Y : Nat → Int) (h12 : Hp) (ha__1 : h12 a = some (ob 1 [vi L0, vi g0, .ref (a + 1), .ref (a + 2), vi (it : Int), .ref (a + 3), .ref (a + 4), .ref (a + 5)])) (ho__1 : h12 (a + 1) = some (ai G 8 RO)) (hp__1 : h12 (a + 2) = some (ai G 8 PR)) (ht__1 : h12 (a + 3) = some (ai G 8 ST)) (hq__1 : h12 (a + 4) = some (ai G 8 Y)) (fr__1 : ∀ q : Nat, (q < a + 4 ∨ a + 4 < q) → h12 q = h q) (hp1 : p ≤ v) (hlo : ∀ j, j < p → Y j = Q2 j) (hhi : ∀ j, p < j → j ≤ v → Y j = Q2 (j - 1)) (hgt : ∀ j, p ≤ j → j < v → B v < B (Q2 j)) (hmz_1 : p < nz_1), Go G X 3 QQ 0 0 nx 12 [(0, .ref a), (1, vi (v : Int)), (2, vi (p : Int))] [] h12 := by
          intro nz_1
          induction nz_1 with
          | zero => intro p Y h12 ha__1 ho__1 hp__1 ht__1 hq__1 fr__1 hp1 hlo hhi hgt hmz_1; exact absurd hmz_1 (Nat.not_lt_zero _)
          | succ nz_1 ih12 =>
            intro p Y h12 ha__1 ho__1 hp__1 ht__1 hq__1 fr__1 hp1 hlo hhi hgt hmz_1
            refine g_iload_n k rfl dX1_fillQueue_12 ?_
            refine g_if_le k (tgt := 58) (by omega) dX1_fillQueue_13 (by decide) (fun c13 => ?_) (fun c13 => ?_)
            · skip
              refine g_aload_n k rfl dX1_fillQueue_58 ?_
              refine g_get k 1 6 (C := RX1) (T := TX1) (N := 8) fl_X1_21 rfl wi_X1 (by decide) rfl ha__1 rfl dX1_fillQueue_59 ?_
              refine g_iload_n k rfl dX1_fillQueue_62 ?_
              refine g_iload_n k rfl dX1_fillQueue_63 ?_
              refine g_iast k p hq__1 (by omega) (by omega) (by decide) dX1_fillQueue_64 (fun h64 eh64 => ?_)
              have ha__2 : h64 a = some (ob 1 [vi L0, vi g0, .ref (a + 1), .ref (a + 2), vi (it : Int), .ref (a + 3), .ref (a + 4), .ref (a + 5)]) := (congrFun eh64 _).trans ((hup_n (by omega)).trans ha__1)
              have ho__2 : h64 (a + 1) = some (ai G 8 RO) := (congrFun eh64 _).trans ((hup_n (by omega)).trans ho__1)
              have hp__2 : h64 (a + 2) = some (ai G 8 PR) := (congrFun eh64 _).trans ((hup_n (by omega)).trans hp__1)
              have ht__2 : h64 (a + 3) = some (ai G 8 ST) := (congrFun eh64 _).trans ((hup_n (by omega)).trans ht__1)
              have hq__2 : h64 (a + 4) = some (ai G 8 (fu Y p (v : Int))) := (congrFun eh64 _).trans hup_s
              have fr__2 : ∀ q : Nat, (q < a + 4 ∨ a + 4 < q) → h64 q = h q := fun q hq => (congrFun eh64 q).trans ((hup_n (by omega)).trans (fr__1 q hq))
              refine g_iinc k (lv2 := [(0, .ref a), (1, vi ((v : Int) + 1)), (2, vi (p : Int))]) rfl (by decide) rfl rfl dX1_fillQueue_65 ?_
              refine g_goto k (tgt := 2) dX1_fillQueue_68 (by decide) ?_
              refine g_less (lv2 := [(0, .ref a), (1, vi ((v : Int) + 1))]) ⟨rfl, rfl, trivial⟩ ?_
              exact ih2 (v + 1) (insF Q2 p v) (fu Y p (v : Int)) h64 ha__2 ho__2 hp__2 ht__2 hq__2 fr__2 (by omega) (hsr.ins (by omega) hgt (fun q => by omega)) (fun j hj => by unfold insF fu; by_cases c1 : j = p; (subst c1; rw [if_pos rfl, if_neg (by omega), if_pos rfl]); (rw [if_neg c1]; by_cases c2 : j < p; (rw [if_pos c2]; exact hlo j c2); (rw [if_neg c2, if_neg c1]; exact hhi j (by omega) (by omega)))) (by omega)
            · skip
              have q1 := hsr.1 (p - 1) (by omega)
              have b2 := hO.2 (Q2 (p - 1)) (by omega)
              refine g_aload_n k rfl dX1_fillQueue_16 ?_
              refine g_get k 1 5 (C := RX1) (T := TX1) (N := 8) fl_X1_18 rfl wi_X1 (by decide) rfl ha__1 rfl dX1_fillQueue_17 ?_
              refine g_aload_n k rfl dX1_fillQueue_20 ?_
              refine g_get k 1 6 (C := RX1) (T := TX1) (N := 8) fl_X1_21 rfl wi_X1 (by decide) rfl ha__1 rfl dX1_fillQueue_21 ?_
              refine g_iload_n k rfl dX1_fillQueue_24 ?_
              refine g_iconst k dX1_fillQueue_25 ?_
              refine g_isub k dX1_fillQueue_26 ?_
              refine g_iald k (p - 1) hq__1 (by omega) (by omega) (by decide) dX1_fillQueue_27 ?_
              rw [show Y (p - 1) = (Q2 (p - 1) : Int) from (hlo (p - 1) (by omega))]
              refine g_iald k (Q2 (p - 1)) ht__1 (by omega) (by omega) (by decide) dX1_fillQueue_28 ?_
              rw [show ST (Q2 (p - 1)) = B (Q2 (p - 1)) from (hB _ (by omega))]
              refine g_aload_n k rfl dX1_fillQueue_29 ?_
              refine g_get k 1 5 (C := RX1) (T := TX1) (N := 8) fl_X1_18 rfl wi_X1 (by decide) rfl ha__1 rfl dX1_fillQueue_30 ?_
              refine g_iload_n k rfl dX1_fillQueue_33 ?_
              refine g_iald k v ht__1 (by omega) (by omega) (by decide) dX1_fillQueue_34 ?_
              rw [show ST v = B v from (hB _ (by omega))]
              refine g_icmp_le k (tgt := 58) (by omega) (by omega) dX1_fillQueue_35 (by decide) (fun c35 => ?_) (fun c35 => ?_)
              · skip
                refine g_aload_n k rfl dX1_fillQueue_58 ?_
                refine g_get k 1 6 (C := RX1) (T := TX1) (N := 8) fl_X1_21 rfl wi_X1 (by decide) rfl ha__1 rfl dX1_fillQueue_59 ?_
                refine g_iload_n k rfl dX1_fillQueue_62 ?_
                refine g_iload_n k rfl dX1_fillQueue_63 ?_
                refine g_iast k p hq__1 (by omega) (by omega) (by decide) dX1_fillQueue_64 (fun h64_1 eh64_1 => ?_)
                have ha__3 : h64_1 a = some (ob 1 [vi L0, vi g0, .ref (a + 1), .ref (a + 2), vi (it : Int), .ref (a + 3), .ref (a + 4), .ref (a + 5)]) := (congrFun eh64_1 _).trans ((hup_n (by omega)).trans ha__1)
                have ho__3 : h64_1 (a + 1) = some (ai G 8 RO) := (congrFun eh64_1 _).trans ((hup_n (by omega)).trans ho__1)
                have hp__3 : h64_1 (a + 2) = some (ai G 8 PR) := (congrFun eh64_1 _).trans ((hup_n (by omega)).trans hp__1)
                have ht__3 : h64_1 (a + 3) = some (ai G 8 ST) := (congrFun eh64_1 _).trans ((hup_n (by omega)).trans ht__1)
                have hq__3 : h64_1 (a + 4) = some (ai G 8 (fu Y p (v : Int))) := (congrFun eh64_1 _).trans hup_s
                have fr__3 : ∀ q : Nat, (q < a + 4 ∨ a + 4 < q) → h64_1 q = h q := fun q hq => (congrFun eh64_1 q).trans ((hup_n (by omega)).trans (fr__1 q hq))
                refine g_iinc k (lv2 := [(0, .ref a), (1, vi ((v : Int) + 1)), (2, vi (p : Int))]) rfl (by decide) rfl rfl dX1_fillQueue_65 ?_
                refine g_goto k (tgt := 2) dX1_fillQueue_68 (by decide) ?_
                refine g_less (lv2 := [(0, .ref a), (1, vi ((v : Int) + 1))]) ⟨rfl, rfl, trivial⟩ ?_
                exact ih2 (v + 1) (insF Q2 p v) (fu Y p (v : Int)) h64_1 ha__3 ho__3 hp__3 ht__3 hq__3 fr__3 (by omega) (hsr.ins (by omega) hgt (fun _ => by omega)) (fun j hj => by unfold insF fu; by_cases c1 : j = p; (subst c1; rw [if_pos rfl, if_neg (by omega), if_pos rfl]); (rw [if_neg c1]; by_cases c2 : j < p; (rw [if_pos c2]; exact hlo j c2); (rw [if_neg c2, if_neg c1]; exact hhi j (by omega) (by omega)))) (by omega)
              · skip
                refine g_aload_n k rfl dX1_fillQueue_38 ?_
                refine g_get k 1 6 (C := RX1) (T := TX1) (N := 8) fl_X1_21 rfl wi_X1 (by decide) rfl ha__1 rfl dX1_fillQueue_39 ?_
                refine g_iload_n k rfl dX1_fillQueue_42 ?_
                refine g_aload_n k rfl dX1_fillQueue_43 ?_
                refine g_get k 1 6 (C := RX1) (T := TX1) (N := 8) fl_X1_21 rfl wi_X1 (by decide) rfl ha__1 rfl dX1_fillQueue_44 ?_
                refine g_iload_n k rfl dX1_fillQueue_47 ?_
                refine g_iconst k dX1_fillQueue_48 ?_
                refine g_isub k dX1_fillQueue_49 ?_
                refine g_iald k (p - 1) hq__1 (by omega) (by omega) (by decide) dX1_fillQueue_50 ?_
                rw [show Y (p - 1) = (Q2 (p - 1) : Int) from (hlo (p - 1) (by omega))]
                refine g_iast k p hq__1 (by omega) (by omega) (by decide) dX1_fillQueue_51 (fun h51 eh51 => ?_)
                have ha__4 : h51 a = some (ob 1 [vi L0, vi g0, .ref (a + 1), .ref (a + 2), vi (it : Int), .ref (a + 3), .ref (a + 4), .ref (a + 5)]) := (congrFun eh51 _).trans ((hup_n (by omega)).trans ha__1)
                have ho__4 : h51 (a + 1) = some (ai G 8 RO) := (congrFun eh51 _).trans ((hup_n (by omega)).trans ho__1)
                have hp__4 : h51 (a + 2) = some (ai G 8 PR) := (congrFun eh51 _).trans ((hup_n (by omega)).trans hp__1)
                have ht__4 : h51 (a + 3) = some (ai G 8 ST) := (congrFun eh51 _).trans ((hup_n (by omega)).trans ht__1)
                have hq__4 : h51 (a + 4) = some (ai G 8 (fu Y p (Q2 (p - 1) : Int))) := (congrFun eh51 _).trans hup_s
                have fr__4 : ∀ q : Nat, (q < a + 4 ∨ a + 4 < q) → h51 q = h q := fun q hq => (congrFun eh51 q).trans ((hup_n (by omega)).trans (fr__1 q hq))
                refine g_iinc k (lv2 := [(0, .ref a), (1, vi (v : Int)), (2, vi ((p : Int) + (-1)))]) rfl (by decide) rfl rfl dX1_fillQueue_52 ?_
                refine g_goto k (tgt := 12) dX1_fillQueue_55 (by decide) ?_
                rw [show (p : Int) + -1 = ((p - 1 : Nat) : Int) by omega]
                exact ih12 (p - 1) (fu Y p (Q2 (p - 1) : Int)) h51 ha__4 ho__4 hp__4 ht__4 hq__4 fr__4 (by omega) (fun j hj => (fu_n (by omega)).trans (hlo j (by omega))) (fun j g1 g2 => by rcases (show j = p ∨ p < j by omega) with rfl | q; exact fu_s; exact (fu_n (by omega)).trans (hhi j q g2)) (fun j g1 g2 => by rcases (show j = p - 1 ∨ p ≤ j by omega) with rfl | q; omega; exact hgt j q g2) (by omega)
        exact K12 _ v Z h2 ha_ ho_ hp_ ht_ hq_ fr_ (by omega) hz (fun j g1 g2 => by omega) (fun j g1 g2 => by omega) (Nat.lt_succ_self _)
  exact K2 _ 0 (fun _ => 0) QU h ha ho hp ht hq fr0 (Nat.zero_le _) ⟨fun i hi => absurd hi (Nat.not_lt_zero i), fun i j _ hj => absurd hj (Nat.not_lt_zero j)⟩ (fun j hj => absurd hj (Nat.not_lt_zero j)) (Nat.lt_succ_self _)

