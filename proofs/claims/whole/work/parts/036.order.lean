/-! Ring.bits; the order by begins -/
def rbF (r : Nat → Int) : Nat → Nat
  | 0 => 0
  | i + 1 => rbF r i ||| 2 ^ (r i).toNat
theorem rbF_lt {r : Nat → Int} : ∀ n, (∀ i, i < n → 0 ≤ r i ∧ r i < 28) → rbF r n < 268435456
  | 0, _ => by show 0 < _; decide
  | i + 1, h => by
    have h1 := rbF_lt i (fun j hj => h j (by omega))
    have h2 := h i (by omega)
    have h3 : 2 ^ (r i).toNat < 2 ^ 28 := Nat.pow_lt_pow_right (by decide) (by omega)
    exact Nat.or_lt_two_pow (n := 28) h1 h3
set_option maxHeartbeats 600000 in
set_option maxRecDepth 100000 in
theorem c_X5_bits {G : Gx} {h : Hp} {nx a n : Nat} {c0 x0 y0 : Int} {r0 S0 : Nat → Int} (hA : GA G h a ((n : Int) + 1) c0 x0 y0 r0 S0) (hn : n < 8) (hr : ∀ i, i < n → 0 ≤ r0 i ∧ r0 i < 28) : Con G yX5_bits cX5_bits 3 (some .int) 1 0 0 [.ref a] h nx (PI fun z h' => h' = h ∧ z = (rbF r0 n : Nat)) := by
  obtain ⟨ha, hw, hm⟩ := hA
  refine Con.of v_X5_bits.2.2.2.2.2.1 (Nat.le_of_ble_eq_true rfl) (lv := [(0, .ref a)]) rfl (fun X k => ?_)
  generalize hQ : QM G X nx 0 0 _ = Q
  refine g_iconst k dX5_bits_0 ?_
  refine g_istore_n k (lv2 := [(0, .ref a), (1, vi 0)]) (by decide) rfl rfl dX5_bits_1 ?_
  refine g_iconst k dX5_bits_2 ?_
  refine g_istore_n k (lv2 := [(0, .ref a), (1, vi 0), (2, vi 0)]) (by decide) rfl rfl dX5_bits_3 ?_
  have K4 : ∀ (nz : Nat) (v : Nat) (hv : v ≤ n) (hmz : n - v < nz), Go G X 3 Q 0 0 nx 4 [(0, .ref a), (1, vi (rbF r0 v : Int)), (2, vi (v : Int))] [] h := by
    intro nz
    induction nz with
    | zero => intro v hv hmz; exact absurd hmz (Nat.not_lt_zero _)
    | succ nz ih4 =>
      intro v hv hmz
      refine g_iload_n k rfl dX5_bits_4 ?_
      refine g_iconst k dX5_bits_5 ?_
      refine g_iadd k dX5_bits_6 ?_
      refine g_aload_n k rfl dX5_bits_7 ?_
      refine g_get k 5 0 (C := RX5) (T := TX5) (N := 6) fl_X5_26 rfl wi_X5 (by decide) rfl ha rfl dX5_bits_8 ?_
      refine g_icmp_ge k (tgt := 31) (by omega) (by omega) dX5_bits_11 (by decide) (fun c11 => ?_) (fun c11 => ?_)
      · skip
        refine g_iload_n k rfl dX5_bits_31 ?_
        rw [← hQ]
        refine g_ireti k rfl dX5_bits_32 ?_
        have e : v = n := by omega
        subst e
        exact ⟨rfl, rfl⟩
      · skip
        have hb := hr v (by omega)
        have hlt := rbF_lt v (fun j hj => hr j (by omega))
        have hp := pow31 (n := (r0 v).toNat) (by omega)
        refine g_iload_n k rfl dX5_bits_14 ?_
        refine g_iconst k dX5_bits_15 ?_
        refine g_aload_n k rfl dX5_bits_16 ?_
        refine g_get k 5 4 (C := RX5) (T := TX5) (N := 6) fl_X5_9 rfl wi_X5 (by decide) rfl ha rfl dX5_bits_17 ?_
        refine g_iload_n k rfl dX5_bits_20 ?_
        refine g_iald k v hw (by omega) (by omega) (by decide) dX5_bits_21 ?_
        refine g_ishl k (by omega) dX5_bits_22 ?_
        rw [show 1 * 2 ^ (r0 v).toNat = ((2 ^ (r0 v).toNat : Nat) : Int) from (by rw [Int.natCast_pow, Int.one_mul]; rfl)]
        refine g_ior k (a := rbF r0 v) (b := 2 ^ (r0 v).toNat) (by omega) (by omega) dX5_bits_23 ?_
        refine g_istore_n k (lv2 := [(0, .ref a), (1, vi ((rbF r0 v ||| 2 ^ (r0 v).toNat : Nat) : Int)), (2, vi (v : Int))]) (by decide) rfl rfl dX5_bits_24 ?_
        refine g_iinc k (lv2 := [(0, .ref a), (1, vi ((rbF r0 v ||| 2 ^ (r0 v).toNat : Nat) : Int)), (2, vi ((v : Int) + 1))]) rfl (by decide) rfl rfl dX5_bits_25 ?_
        refine g_goto k (tgt := 4) dX5_bits_28 (by decide) ?_
        exact ih4 (v + 1) (by omega) (by omega)
  exact K4 _ 0 (Nat.zero_le _) (Nat.lt_succ_self _)

def OA (G : Gx) (h : Hp) (a : Nat) (L r it : Int) (RO PR ST QU : Nat → Int) : Prop := h a = some (ob 1 [vi L, vi r, .ref (a + 1), .ref (a + 2), vi it, .ref (a + 3), .ref (a + 4), .ref (a + 5)]) ∧ h (a + 1) = some (ai G 8 RO) ∧ h (a + 2) = some (ai G 8 PR) ∧ h (a + 3) = some (ai G 8 ST) ∧ h (a + 4) = some (ai G 8 QU)
/-- L is the least length -/
def isL (φ : Fs) (it L : Nat) : Prop := 1 ≤ L ∧ L < 60 ∧ reS (str φ L it) it ∧ ∀ j : Nat, 1 ≤ j → j < L → ¬ reS (str φ j it) it
def bgn (φ : Fs) (it L v : Nat) : Int := ely (str φ L it) v it
theorem str_bd {φ : Fs} {it : Nat} {L : Int} (h8 : it ≤ 8) (hL : 1 ≤ L ∧ L ≤ 60) : Bd 15360 (str φ L it) := by
  have h := clM_bd (it := it) (lyF_bd (φ := φ) (w := 0) (p := L) (q := 1 - L) (B := 60) (by omega) (by omega) (by omega) φ.length) (by omega) it h8 h8
  have hp : (2 : Int) ^ it ≤ 256 := by
    have : ∀ n : Nat, n < 9 → (2 : Int) ^ n ≤ 256 := by decide
    exact this it (by omega)
  intro j hj
  have := h j hj
  unfold str
  omega
set_option maxHeartbeats 600000 in
set_option maxRecDepth 100000 in
theorem c_X1_lay {G : Gx} {h : Hp} {nx a : Nat} {L0 g0 i0 : Int} {RO PR ST QU : Nat → Int} (hA : OA G h a L0 g0 i0 RO PR ST QU) {it0 : Nat} {M : Nat → Int} (hM : RA G h (a + 5) it0 M) {b it L : Nat} {φ : Fs} (hF : FA G h b it φ) (hS : Sm it φ) (hd : a + 6 < b ∨ b + 3 < a) (hL : isL φ it L) : Con G yX1_lay cX1_lay 3 none 4 0 0 [.ref a, .ref b] h nx (PV fun h' => (∃ ST2 : Nat → Int, OA G h' a L g0 it RO PR ST2 QU ∧ ∀ v, v < it → ST2 v = bgn φ it L v) ∧ RA G h' (a + 5) it (str φ L it) ∧ ∀ q : Nat, (q < a ∨ a + 6 < q) → h' q = h q) := by
  obtain ⟨ha, ho, hp, ht, hq⟩ := hA
  obtain ⟨hx, hm⟩ := hM
  have hF0 := hF
  obtain ⟨K, F, Z, hb, hbk, hbf, hbs, hr⟩ := hF
  obtain ⟨h8, h28, hsm⟩ := id hS
  obtain ⟨l1, l2, l3, l4⟩ := hL
  have hbd := str_bd (φ := φ) (L := (L : Int)) h8 (by omega)
  refine Con.of v_X1_lay.2.2.2.2.2.1 (Nat.le_of_ble_eq_true rfl) (lv := [(0, .ref a), (1, .ref b)]) rfl (fun X k => ?_)
  generalize hQ : QM G X nx 0 0 _ = Q
  have fr0 : ∀ q : Nat, (q < a ∨ a + 6 < q) → h q = h q := fun _ _ => rfl
  refine g_aload_n k rfl dX1_lay_0 ?_
  refine g_aload_n k rfl dX1_lay_1 ?_
  refine g_get k 0 0 (C := RX0) (T := TX0) (N := 5) fl_X1_31 rfl wi_X0 (by decide) rfl hb rfl dX1_lay_2 ?_
  refine g_put k 1 4 (C := RX1) (T := TX1) (N := 8) fl_X1_37 rfl wi_X1 tyX1 tyX1_ok nmX1 (by decide) rfl rfl rfl rfl ha (Nat.le_of_ble_eq_true rfl) (fs2 := [vi L0, vi g0, .ref (a + 1), .ref (a + 2), vi (it : Int), .ref (a + 3), .ref (a + 4), .ref (a + 5)]) rfl rfl dX1_lay_5 (fun h5 eh5 => ?_)
  have ha_ : h5 a = some (ob 1 [vi L0, vi g0, .ref (a + 1), .ref (a + 2), vi (it : Int), .ref (a + 3), .ref (a + 4), .ref (a + 5)]) := (congrFun eh5 _).trans hup_s
  have ho_ : h5 (a + 1) = some (ai G 8 RO) := (congrFun eh5 _).trans ((hup_n (by omega)).trans ho)
  have hp_ : h5 (a + 2) = some (ai G 8 PR) := (congrFun eh5 _).trans ((hup_n (by omega)).trans hp)
  have ht_ : h5 (a + 3) = some (ai G 8 ST) := (congrFun eh5 _).trans ((hup_n (by omega)).trans ht)
  have hq_ : h5 (a + 4) = some (ai G 8 QU) := (congrFun eh5 _).trans ((hup_n (by omega)).trans hq)
  have hx_ : h5 (a + 5) = some (ob 3 [vi (it0 : Int), .ref (a + 5 + 1)]) := (congrFun eh5 _).trans ((hup_n (by omega)).trans hx)
  have hm_ : h5 (a + 5 + 1) = some (ai G 64 M) := (congrFun eh5 _).trans ((hup_n (by omega)).trans hm)
  have hb_ : h5 b = some (ob 0 [vi (it : Int), vi (φ.length : Int), .ref (b + 1), .ref (b + 2), .ref (b + 3)]) := (congrFun eh5 _).trans ((hup_n (by omega)).trans hb)
  have fr_ : ∀ q : Nat, (q < a ∨ a + 6 < q) → h5 q = h q := fun q hq => (congrFun eh5 q).trans ((hup_n (by omega)).trans (fr0 q hq))
  refine g_aload_n k rfl dX1_lay_8 ?_
  refine g_iconst k dX1_lay_9 ?_
  refine g_put k 1 0 (C := RX1) (T := TX1) (N := 8) fl_X1_38 rfl wi_X1 tyX1 tyX1_ok nmX1 (by decide) rfl rfl rfl rfl ha_ (Nat.le_of_ble_eq_true rfl) (fs2 := [vi 1, vi g0, .ref (a + 1), .ref (a + 2), vi (it : Int), .ref (a + 3), .ref (a + 4), .ref (a + 5)]) rfl rfl dX1_lay_10 (fun h10 eh10 => ?_)
  have ha__1 : h10 a = some (ob 1 [vi 1, vi g0, .ref (a + 1), .ref (a + 2), vi (it : Int), .ref (a + 3), .ref (a + 4), .ref (a + 5)]) := (congrFun eh10 _).trans hup_s
  have ho__1 : h10 (a + 1) = some (ai G 8 RO) := (congrFun eh10 _).trans ((hup_n (by omega)).trans ho_)
  have hp__1 : h10 (a + 2) = some (ai G 8 PR) := (congrFun eh10 _).trans ((hup_n (by omega)).trans hp_)
  have ht__1 : h10 (a + 3) = some (ai G 8 ST) := (congrFun eh10 _).trans ((hup_n (by omega)).trans ht_)
  have hq__1 : h10 (a + 4) = some (ai G 8 QU) := (congrFun eh10 _).trans ((hup_n (by omega)).trans hq_)
  have hx__1 : h10 (a + 5) = some (ob 3 [vi (it0 : Int), .ref (a + 5 + 1)]) := (congrFun eh10 _).trans ((hup_n (by omega)).trans hx_)
  have hm__1 : h10 (a + 5 + 1) = some (ai G 64 M) := (congrFun eh10 _).trans ((hup_n (by omega)).trans hm_)
  have hb__1 : h10 b = some (ob 0 [vi (it : Int), vi (φ.length : Int), .ref (b + 1), .ref (b + 2), .ref (b + 3)]) := (congrFun eh10 _).trans ((hup_n (by omega)).trans hb_)
  have fr__1 : ∀ q : Nat, (q < a ∨ a + 6 < q) → h10 q = h q := fun q hq => (congrFun eh10 q).trans ((hup_n (by omega)).trans (fr_ q hq))
  have K13 : ∀ (nz : Nat) (v : Nat) (it1 : Nat) (M1 : Nat → Int) (h13 : Hp) (ha__2 : h13 a = some (ob 1 [vi (v : Int), vi g0, .ref (a + 1), .ref (a + 2), vi (it : Int), .ref (a + 3), .ref (a + 4), .ref (a + 5)])) (ho__2 : h13 (a + 1) = some (ai G 8 RO)) (hp__2 : h13 (a + 2) = some (ai G 8 PR)) (ht__2 : h13 (a + 3) = some (ai G 8 ST)) (hq__2 : h13 (a + 4) = some (ai G 8 QU)) (hx__2 : h13 (a + 5) = some (ob 3 [vi (it1 : Int), .ref (a + 5 + 1)])) (hm__2 : h13 (a + 5 + 1) = some (ai G 64 M1)) (hb__2 : h13 b = some (ob 0 [vi (it : Int), vi (φ.length : Int), .ref (b + 1), .ref (b + 2), .ref (b + 3)])) (fr__2 : ∀ q : Nat, (q < a ∨ a + 6 < q) → h13 q = h q) (hv : 1 ≤ v ∧ v ≤ L) (hmz : L - v < nz), Go G X 3 Q 0 0 nx 13 [(0, .ref a), (1, .ref b)] [] h13 := by
    intro nz
    induction nz with
    | zero => intro v it1 M1 h13 ha__2 ho__2 hp__2 ht__2 hq__2 hx__2 hm__2 hb__2 fr__2 hv hmz; exact absurd hmz (Nat.not_lt_zero _)
    | succ nz ih13 =>
      intro v it1 M1 h13 ha__2 ho__2 hp__2 ht__2 hq__2 hx__2 hm__2 hb__2 fr__2 hv hmz
      refine g_aload_n k rfl dX1_lay_13 ?_
      refine g_get k 1 0 (C := RX1) (T := TX1) (N := 8) fl_X1_38 rfl wi_X1 (by decide) rfl ha__2 rfl dX1_lay_14 ?_
      refine g_bipush k rfl dX1_lay_17 ?_
      refine g_icmp_ge k (tgt := 50) (by omega) (by omega) dX1_lay_19 (by decide) (fun c19 => ?_) (fun c19 => ?_)
      · skip
        omega
      · skip
        refine g_aload_n k rfl dX1_lay_22 ?_
        refine g_get k 1 7 (C := RX1) (T := TX1) (N := 8) fl_X1_27 rfl wi_X1 (by decide) rfl ha__2 rfl dX1_lay_23 ?_
        refine g_aload_n k rfl dX1_lay_26 ?_
        refine g_aload_n k rfl dX1_lay_27 ?_
        refine g_get k 1 0 (C := RX1) (T := TX1) (N := 8) fl_X1_38 rfl wi_X1 (by decide) rfl ha__2 rfl dX1_lay_28 ?_
        refine g_cVi k 3 (As := [.ref b, vi (v : Int)]) v_X3_stretch rfl rfl hx__2 ml_X1_41 (c_X3_stretch (hF0.keep (fun q g1 g2 => fr__2 q (by omega))) hS (by omega) ⟨hx__2, hm__2⟩ (L1 := (v : Int)) (by omega)) (by omega) (by omega) rfl (Nat.le_of_ble_eq_true rfl) rfl dX1_lay_31 (fun r31 h31 p31 => ?_)
        obtain ⟨pz, ⟨nx1, nm⟩, nfr⟩ := p31
        have ha__3 : h31 a = some (ob 1 [vi (v : Int), vi g0, .ref (a + 1), .ref (a + 2), vi (it : Int), .ref (a + 3), .ref (a + 4), .ref (a + 5)]) := (nfr _ (by omega)).trans ha__2
        have ho__3 : h31 (a + 1) = some (ai G 8 RO) := (nfr _ (by omega)).trans ho__2
        have hp__3 : h31 (a + 2) = some (ai G 8 PR) := (nfr _ (by omega)).trans hp__2
        have ht__3 : h31 (a + 3) = some (ai G 8 ST) := (nfr _ (by omega)).trans ht__2
        have hq__3 : h31 (a + 4) = some (ai G 8 QU) := (nfr _ (by omega)).trans hq__2
        have hx__3 : h31 (a + 5) = some (ob 3 [vi (it : Int), .ref (a + 5 + 1)]) := nx1
        have hm__3 : h31 (a + 5 + 1) = some (ai G 64 (str φ v it)) := nm
        have hb__3 : h31 b = some (ob 0 [vi (it : Int), vi (φ.length : Int), .ref (b + 1), .ref (b + 2), .ref (b + 3)]) := (nfr _ (by omega)).trans hb__2
        have fr__3 : ∀ q : Nat, (q < a ∨ a + 6 < q) → h31 q = h q := fun q hq => (nfr q (by omega)).trans (fr__2 q hq)
        have pzr := pz.r
        refine g_if_ne k (tgt := 50) (by omega) dX1_lay_34 (by decide) (fun c34 => ?_) (fun c34 => ?_)
        · skip
          have eL : v = L := by
            rcases Nat.lt_or_ge v L with q | q
            · exact absurd (pz.t (by omega)) (l4 v (by omega) q)
            · omega
          subst eL
          refine g_iconst k dX1_lay_50 ?_
          refine g_istore_n k (lv2 := [(0, .ref a), (1, .ref b), (2, vi 0)]) (by decide) rfl rfl dX1_lay_51 ?_
          have K52 : ∀ (nz_1 : Nat) (u : Nat) (ST2 : Nat → Int) (h52 : Hp) (ha__4 : h52 a = some (ob 1 [vi (v : Int), vi g0, .ref (a + 1), .ref (a + 2), vi (it : Int), .ref (a + 3), .ref (a + 4), .ref (a + 5)])) (ho__4 : h52 (a + 1) = some (ai G 8 RO)) (hp__4 : h52 (a + 2) = some (ai G 8 PR)) (ht__4 : h52 (a + 3) = some (ai G 8 ST2)) (hq__4 : h52 (a + 4) = some (ai G 8 QU)) (hx__4 : h52 (a + 5) = some (ob 3 [vi (it : Int), .ref (a + 5 + 1)])) (hm__4 : h52 (a + 5 + 1) = some (ai G 64 (str φ v it))) (hb__4 : h52 b = some (ob 0 [vi (it : Int), vi (φ.length : Int), .ref (b + 1), .ref (b + 2), .ref (b + 3)])) (fr__4 : ∀ q : Nat, (q < a ∨ a + 6 < q) → h52 q = h q) (hu : u ≤ it) (hst : ∀ j, j < u → ST2 j = bgn φ it v j) (hmz_1 : it - u < nz_1), Go G X 3 Q 0 0 nx 52 [(0, .ref a), (1, .ref b), (2, vi (u : Int))] [] h52 := by
            intro nz_1
            induction nz_1 with
            | zero => intro u ST2 h52 ha__4 ho__4 hp__4 ht__4 hq__4 hx__4 hm__4 hb__4 fr__4 hu hst hmz_1; exact absurd hmz_1 (Nat.not_lt_zero _)
            | succ nz_1 ih52 =>
              intro u ST2 h52 ha__4 ho__4 hp__4 ht__4 hq__4 hx__4 hm__4 hb__4 fr__4 hu hst hmz_1
              refine g_iload_n k rfl dX1_lay_52 ?_
              refine g_aload_n k rfl dX1_lay_53 ?_
              refine g_get k 1 4 (C := RX1) (T := TX1) (N := 8) fl_X1_37 rfl wi_X1 (by decide) rfl ha__4 rfl dX1_lay_54 ?_
              refine g_icmp_ge k (tgt := 80) (by omega) (by omega) dX1_lay_57 (by decide) (fun c57 => ?_) (fun c57 => ?_)
              · skip
                rw [← hQ]
                refine g_retv k rfl dX1_lay_80 ?_
                have e : u = it := by omega
                subst e
                exact ⟨⟨ST2, ⟨ha__4, ho__4, hp__4, ht__4, hq__4⟩, hst⟩, ⟨hx__4, hm__4⟩, fr__4⟩
              · skip
                refine g_aload_n k rfl dX1_lay_60 ?_
                refine g_get k 1 5 (C := RX1) (T := TX1) (N := 8) fl_X1_18 rfl wi_X1 (by decide) rfl ha__4 rfl dX1_lay_61 ?_
                refine g_iload_n k rfl dX1_lay_64 ?_
                refine g_aload_n k rfl dX1_lay_65 ?_
                refine g_get k 1 7 (C := RX1) (T := TX1) (N := 8) fl_X1_27 rfl wi_X1 (by decide) rfl ha__4 rfl dX1_lay_66 ?_
                refine g_iload_n k rfl dX1_lay_69 ?_
                refine g_cVi k 3 (As := [vi (u : Int)]) v_X3_earliest rfl rfl hx__4 ml_X1_45 (c_X3_earliest ⟨hx__4, hm__4⟩ h8 hbd (by omega) (i1 := u) (by omega)) (by omega) (by omega) rfl (Nat.le_of_ble_eq_true rfl) rfl dX1_lay_70 (fun r70 h70 p70 => ?_)
                obtain ⟨eh70, p70⟩ := p70
                have eh70 := eh70.symm; subst eh70
                subst p70
                refine g_iast k u ht__4 (by omega) (by omega) (by decide) dX1_lay_73 (fun h73 eh73 => ?_)
                have ha__5 : h73 a = some (ob 1 [vi (v : Int), vi g0, .ref (a + 1), .ref (a + 2), vi (it : Int), .ref (a + 3), .ref (a + 4), .ref (a + 5)]) := (congrFun eh73 _).trans ((hup_n (by omega)).trans ha__4)
                have ho__5 : h73 (a + 1) = some (ai G 8 RO) := (congrFun eh73 _).trans ((hup_n (by omega)).trans ho__4)
                have hp__5 : h73 (a + 2) = some (ai G 8 PR) := (congrFun eh73 _).trans ((hup_n (by omega)).trans hp__4)
                have ht__5 : h73 (a + 3) = some (ai G 8 (fu ST2 u (bgn φ it v u))) := (congrFun eh73 _).trans hup_s
                have hq__5 : h73 (a + 4) = some (ai G 8 QU) := (congrFun eh73 _).trans ((hup_n (by omega)).trans hq__4)
                have hx__5 : h73 (a + 5) = some (ob 3 [vi (it : Int), .ref (a + 5 + 1)]) := (congrFun eh73 _).trans ((hup_n (by omega)).trans hx__4)
                have hm__5 : h73 (a + 5 + 1) = some (ai G 64 (str φ v it)) := (congrFun eh73 _).trans ((hup_n (by omega)).trans hm__4)
                have hb__5 : h73 b = some (ob 0 [vi (it : Int), vi (φ.length : Int), .ref (b + 1), .ref (b + 2), .ref (b + 3)]) := (congrFun eh73 _).trans ((hup_n (by omega)).trans hb__4)
                have fr__5 : ∀ q : Nat, (q < a ∨ a + 6 < q) → h73 q = h q := fun q hq => (congrFun eh73 q).trans ((hup_n (by omega)).trans (fr__4 q hq))
                refine g_iinc k (lv2 := [(0, .ref a), (1, .ref b), (2, vi ((u : Int) + 1))]) rfl (by decide) rfl rfl dX1_lay_74 ?_
                refine g_goto k (tgt := 52) dX1_lay_77 (by decide) ?_
                exact ih52 (u + 1) (fu ST2 u (bgn φ it v u)) h73 ha__5 ho__5 hp__5 ht__5 hq__5 hx__5 hm__5 hb__5 fr__5 (by omega) (lt_s2 (fun j hj => (fu_n (by omega)).trans (hst j hj)) fu_s) (by omega)
          exact K52 _ 0 ST h31 ha__3 ho__3 hp__3 ht__3 hq__3 hx__3 hm__3 hb__3 fr__3 (Nat.zero_le _) (fun j hj => absurd hj (Nat.not_lt_zero j)) (Nat.lt_succ_self _)
        · skip
          refine g_aload_n k rfl dX1_lay_37 ?_
          refine g_dup k rfl dX1_lay_38 ?_
          refine g_get k 1 0 (C := RX1) (T := TX1) (N := 8) fl_X1_38 rfl wi_X1 (by decide) rfl ha__3 rfl dX1_lay_39 ?_
          refine g_iconst k dX1_lay_42 ?_
          refine g_iadd k dX1_lay_43 ?_
          refine g_put k 1 0 (C := RX1) (T := TX1) (N := 8) fl_X1_38 rfl wi_X1 tyX1 tyX1_ok nmX1 (by decide) rfl rfl rfl rfl ha__3 (Nat.le_of_ble_eq_true rfl) (fs2 := [vi ((v : Int) + 1), vi g0, .ref (a + 1), .ref (a + 2), vi (it : Int), .ref (a + 3), .ref (a + 4), .ref (a + 5)]) rfl rfl dX1_lay_44 (fun h44 eh44 => ?_)
          have ha__6 : h44 a = some (ob 1 [vi ((v : Int) + 1), vi g0, .ref (a + 1), .ref (a + 2), vi (it : Int), .ref (a + 3), .ref (a + 4), .ref (a + 5)]) := (congrFun eh44 _).trans hup_s
          have ho__6 : h44 (a + 1) = some (ai G 8 RO) := (congrFun eh44 _).trans ((hup_n (by omega)).trans ho__3)
          have hp__6 : h44 (a + 2) = some (ai G 8 PR) := (congrFun eh44 _).trans ((hup_n (by omega)).trans hp__3)
          have ht__6 : h44 (a + 3) = some (ai G 8 ST) := (congrFun eh44 _).trans ((hup_n (by omega)).trans ht__3)
          have hq__6 : h44 (a + 4) = some (ai G 8 QU) := (congrFun eh44 _).trans ((hup_n (by omega)).trans hq__3)
          have hx__6 : h44 (a + 5) = some (ob 3 [vi (it : Int), .ref (a + 5 + 1)]) := (congrFun eh44 _).trans ((hup_n (by omega)).trans hx__3)
          have hm__6 : h44 (a + 5 + 1) = some (ai G 64 (str φ v it)) := (congrFun eh44 _).trans ((hup_n (by omega)).trans hm__3)
          have hb__6 : h44 b = some (ob 0 [vi (it : Int), vi (φ.length : Int), .ref (b + 1), .ref (b + 2), .ref (b + 3)]) := (congrFun eh44 _).trans ((hup_n (by omega)).trans hb__3)
          have fr__6 : ∀ q : Nat, (q < a ∨ a + 6 < q) → h44 q = h q := fun q hq => (congrFun eh44 q).trans ((hup_n (by omega)).trans (fr__3 q hq))
          refine g_goto k (tgt := 13) dX1_lay_47 (by decide) ?_
          have hne : v ≠ L := fun e => by subst e; exact (pz.f (by omega)) l3
          exact ih13 (v + 1) it (str φ v it) h44 ha__6 ho__6 hp__6 ht__6 hq__6 hx__6 hm__6 hb__6 fr__6 (by omega) (by omega)
  exact K13 _ 1 it0 M h10 ha__1 ho__1 hp__1 ht__1 hq__1 hx__1 hm__1 hb__1 fr__1 (by omega) (Nat.lt_succ_self _)

