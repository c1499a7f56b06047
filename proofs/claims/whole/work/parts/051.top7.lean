/-! make, leastYield, leastOfRing, yields -/
def mkI (s : Nat → Nat) (a : Nat) : Nat → Fs
  | 0 => []
  | m + 1 => mkI s a m ++ [(if a < s (a + 1 + m) then 0 else 1, a, a + 1 + m)]
def mkO (s : Nat → Nat) (n : Nat) : Nat → Fs
  | 0 => []
  | a + 1 => mkO s n a ++ mkI s a (n - (a + 1))
theorem mkI_len (s : Nat → Nat) (a : Nat) : ∀ m, (mkI s a m).length = m
  | 0 => rfl
  | m + 1 => by unfold mkI; rw [List.length_append, mkI_len s a m]; rfl
theorem mkO_len (s : Nat → Nat) (n : Nat) : ∀ a, (mkO s n a).length = cmF n a
  | 0 => rfl
  | a + 1 => by unfold mkO cmF; rw [List.length_append, mkO_len s n a, mkI_len]
def mkT (it : Nat) (φ : Fs) (ps : List (Nat × Fs)) (p p2 : Int) : Int × Nat × Fs × List (Nat × Fs) := if 1 ≤ p ∧ p ≤ 8 ∧ 0 ≤ p2 ∧ p2 < (rF p.toNat 0 0 : Nat) then (((mkO (spl p.toNat p2.toNat) p.toNat p.toNat).length : Nat), p.toNat, mkO (spl p.toNat p2.toNat) p.toNat p.toNat, psh ps (it, φ)) else (-1, it, φ, ps)
set_option maxHeartbeats 600000 in
set_option maxRecDepth 100000 in
theorem c_X9_make {G : Gx} {h : Hp} {nx x : Nat} {it : Nat} {φ : Fs} {ps : List (Nat × Fs)} {im : Nat → Option (Nat × Fs)} {V : RV} {n : Nat} {T : Nat → Int} {ft : Nat} (hS : SF G h x it φ ps im V n T ft) (hSm : Sm it φ) {p p2 : Int} (rp : -2147483648 ≤ p ∧ p ≤ 2147483647) (rp2 : -2147483648 ≤ p2 ∧ p2 ≤ 2147483647) : Con G yX9_make cX9_make 5 (some .int) 4 0 0 [.ref x, vi p, vi p2] h nx (PI fun z h' => z = (mkT it φ ps p p2).1 ∧ SF G h' x (mkT it φ ps p p2).2.1 (mkT it φ ps p p2).2.2.1 (mkT it φ ps p p2).2.2.2 im V n T ft ∧ ∀ q : Nat, (q < x ∨ x + 140 < q) → h' q = h q) := by
  obtain ⟨⟨sd, hx⟩, cF, cM, cP, cI, cV, cK, cR, cO, cW, cS, cZ, cT, cD⟩ := id hS
  have cF : FA G h (x + 1) it φ := cF
  have cP : PA G h (x + 9) ps := cP
  have cV : GV G h (x + 53) V := cV
  have cT : TA G h (x + 133) n T := cT
  have hf := cF.ob
  have hp := cP.ob
  have hv := cV.ob
  have ht := cT.1
  obtain ⟨T0, hTS⟩ := cS
  have hTS : TS G h (x + 130) T0 := hTS
  have hs := hTS.1
  obtain ⟨Z0, hz⟩ := cZ
  have h28 := hSm.2.1
  refine Con.of v_X9_make.2.2.2.2.2.1 (Nat.le_of_ble_eq_true rfl) (lv := [(0, .ref x), (1, vi p), (2, vi p2)]) rfl (fun X k => ?_)
  generalize hQQ : QM G X nx 0 0 _ = QQ
  have fr0 : ∀ q : Nat, (q < x ∨ x + 140 < q) → h q = h q := fun _ _ => rfl
  refine g_iload_n k rfl dX9_make_0 ?_
  refine g_iconst k dX9_make_1 ?_
  refine g_icmp_lt k (tgt := 27) (by omega) (by omega) dX9_make_2 (by decide) (fun c2 => ?_) (fun c2 => ?_)
  · skip
    refine g_iconst k dX9_make_27 ?_
    rw [← hQQ]
    refine g_ireti k rfl dX9_make_28 ?_
    have e : mkT it φ ps p p2 = (-1, it, φ, ps) := by unfold mkT; rw [if_neg (by omega)]
    rw [e]
    exact ⟨rfl, hS, fr0⟩
  · skip
    refine g_iload_n k rfl dX9_make_5 ?_
    refine g_bipush k rfl dX9_make_6 ?_
    refine g_icmp_gt k (tgt := 27) (by omega) (by omega) dX9_make_8 (by decide) (fun c8 => ?_) (fun c8 => ?_)
    · skip
      refine g_iconst k dX9_make_27 ?_
      rw [← hQQ]
      refine g_ireti k rfl dX9_make_28 ?_
      have e : mkT it φ ps p p2 = (-1, it, φ, ps) := by unfold mkT; rw [if_neg (by omega)]
      rw [e]
      exact ⟨rfl, hS, fr0⟩
    · skip
      obtain ⟨n1, en1⟩ : ∃ n1 : Nat, p = n1 := ⟨p.toNat, by omega⟩
      have hn1 : 1 ≤ n1 ∧ n1 ≤ 8 := by omega
      rw [en1]
      have hrl : rF n1 0 0 ≤ 8 ^ n1 := rF_le n1 0 0 (by omega)
      have hrl2 : 8 ^ n1 ≤ 16777216 := by
        have : ∀ n, n < 9 → 8 ^ n ≤ 16777216 := by decide
        exact this n1 (by omega)
      refine g_iload_n k rfl dX9_make_11 ?_
      refine g_if_lt k (tgt := 27) (by omega) dX9_make_12 (by decide) (fun c12 => ?_) (fun c12 => ?_)
      · skip
        refine g_iconst k dX9_make_27 ?_
        rw [← hQQ]
        refine g_ireti k rfl dX9_make_28 ?_
        have e : mkT it φ ps p p2 = (-1, it, φ, ps) := by unfold mkT; rw [if_neg (by omega)]
        rw [e]
        exact ⟨rfl, hS, fr0⟩
      · skip
        obtain ⟨r1, er1⟩ : ∃ r1 : Nat, p2 = r1 := ⟨p2.toNat, by omega⟩
        rw [er1]
        refine g_iload_n k rfl dX9_make_15 ?_
        refine g_aload_n k rfl dX9_make_16 ?_
        refine g_get k 9 10 (C := RX9) (T := TX9) (N := 15) fl_X9_68 rfl wi_X9 (by decide) rfl hx rfl dX9_make_17 ?_
        refine g_iload_n k rfl dX9_make_20 ?_
        refine g_cVi k 6 (As := [vi (n1 : Int)]) v_X6_howMany rfl rfl hs ml_X9_256 (c_X6_howMany hTS (n := n1) (by omega)) (by omega) (by omega) rfl (Nat.le_of_ble_eq_true rfl) rfl dX9_make_21 (fun r21 h21 p21 => ?_)
        obtain ⟨p21e, ⟨T2, nT, -⟩, nfr⟩ := p21
        subst p21e
        have hx_ : h21 x = some (ob 9 [.ref (x + 1), .ref (x + 5), .ref (x + 9), .ref (x + 43), .ref (x + 52), .ref (x + 53), .ref (x + 56), .ref (x + 59), .ref (x + 61), .ref (x + 68), .ref (x + 130), .ref (x + 132), .ref (x + 133), .ref (x + 135), vi sd]) := (nfr _ (by omega)).trans hx
        have hf_ : h21 (x + 1) = some (ob 0 [vi (it : Int), vi (φ.length : Int), .ref (x + 1 + 1), .ref (x + 1 + 2), .ref (x + 1 + 3)]) := (nfr _ (by omega)).trans hf
        have hp_ : h21 (x + 9) = some (ob 2 [vi (ps.length : Int), .ref (x + 9 + 1)]) := (nfr _ (by omega)).trans hp
        have hs_ : h21 (x + 130) = some (ob 6 [.ref (x + 130 + 1)]) := (nfr _ (by omega)).trans hs
        have hz_ : h21 (x + 132) = some (ai G 8 Z0) := (nfr _ (by omega)).trans hz
        have fr_ : ∀ q : Nat, (q < x ∨ x + 140 < q) → h21 q = h q := fun q hq => (nfr q (by omega)).trans (fr0 q hq)
        have hS1 := hS.sS ⟨T2, nT⟩ (fun q g => nfr q (by omega))
        refine g_icmp_lt k (tgt := 29) (by omega) (by omega) dX9_make_24 (by decide) (fun c24 => ?_) (fun c24 => ?_)
        · skip
          refine g_aload_n k rfl dX9_make_29 ?_
          refine g_get k 9 10 (C := RX9) (T := TX9) (N := 15) fl_X9_68 rfl wi_X9 (by decide) rfl hx_ rfl dX9_make_30 ?_
          refine g_iload_n k rfl dX9_make_33 ?_
          refine g_iload_n k rfl dX9_make_34 ?_
          refine g_aload_n k rfl dX9_make_35 ?_
          refine g_get k 9 11 (C := RX9) (T := TX9) (N := 15) fl_X9_72 rfl wi_X9 (by decide) rfl hx_ rfl dX9_make_36 ?_
          refine g_cVv k 6 (As := [vi (n1 : Int), vi (r1 : Int), .ref (x + 132)]) v_X6_spell rfl rfl hs_ ml_X9_259 (c_X6_spell nT (n := n1) (r := r1) (by omega) (by omega) hz_ (by omega)) (by omega) (by omega) rfl (Nat.le_of_ble_eq_true rfl) rfl dX9_make_39 (fun h39 p39 => ?_)
          obtain ⟨⟨Z2, nZ, hZ2⟩, ⟨T3, nT3⟩, nfr2⟩ := p39
          have nfr9 : ∀ q : Nat, ((q < x + 130 + 1 ∨ x + 130 + 1 < q) ∧ q ≠ x + 132) → h39 q = h21 q := fun q hq => nfr2 q hq.1 hq.2
          have hx__1 : h39 x = some (ob 9 [.ref (x + 1), .ref (x + 5), .ref (x + 9), .ref (x + 43), .ref (x + 52), .ref (x + 53), .ref (x + 56), .ref (x + 59), .ref (x + 61), .ref (x + 68), .ref (x + 130), .ref (x + 132), .ref (x + 133), .ref (x + 135), vi sd]) := (nfr9 _ (by omega)).trans hx_
          have hf__1 : h39 (x + 1) = some (ob 0 [vi (it : Int), vi (φ.length : Int), .ref (x + 1 + 1), .ref (x + 1 + 2), .ref (x + 1 + 3)]) := (nfr9 _ (by omega)).trans hf_
          have hp__1 : h39 (x + 9) = some (ob 2 [vi (ps.length : Int), .ref (x + 9 + 1)]) := (nfr9 _ (by omega)).trans hp_
          have hs__1 : h39 (x + 130) = some (ob 6 [.ref (x + 130 + 1)]) := (nfr9 _ (by omega)).trans hs_
          have hz__1 : h39 (x + 132) = some (ai G 8 Z2) := nZ
          have fr__1 : ∀ q : Nat, (q < x ∨ x + 140 < q) → h39 q = h q := fun q hq => (nfr9 q (by omega)).trans (fr_ q hq)
          have hS2 := SFsSsZ hS1 ⟨T3, nT3⟩ ⟨Z2, nZ⟩ (fun q g1 g2 => nfr2 q (by omega) (by omega))
          refine g_aload_n k rfl dX9_make_42 ?_
          refine g_get k 9 2 (C := RX9) (T := TX9) (N := 15) fl_X9_22 rfl wi_X9 (by decide) rfl hx__1 rfl dX9_make_43 ?_
          refine g_aload_n k rfl dX9_make_46 ?_
          refine g_get k 9 0 (C := RX9) (T := TX9) (N := 15) fl_X9_12 rfl wi_X9 (by decide) rfl hx__1 rfl dX9_make_47 ?_
          refine g_cVv k 2 (As := [.ref (x + 1)]) v_X2_push rfl rfl hp__1 ml_X9_169 (c_X2_push hS2.2.2.2.1 hS2.2.1 h28 (by omega)) (by omega) (by omega) rfl (Nat.le_of_ble_eq_true rfl) rfl dX9_make_50 (fun h50 p50 => ?_)
          obtain ⟨nP, nfr3⟩ := p50
          have hx__2 : h50 x = some (ob 9 [.ref (x + 1), .ref (x + 5), .ref (x + 9), .ref (x + 43), .ref (x + 52), .ref (x + 53), .ref (x + 56), .ref (x + 59), .ref (x + 61), .ref (x + 68), .ref (x + 130), .ref (x + 132), .ref (x + 133), .ref (x + 135), vi sd]) := (nfr3 _ (by omega)).trans hx__1
          have hf__2 : h50 (x + 1) = some (ob 0 [vi (it : Int), vi (φ.length : Int), .ref (x + 1 + 1), .ref (x + 1 + 2), .ref (x + 1 + 3)]) := (nfr3 _ (by omega)).trans hf__1
          have hs__2 : h50 (x + 130) = some (ob 6 [.ref (x + 130 + 1)]) := (nfr3 _ (by omega)).trans hs__1
          have hz__2 : h50 (x + 132) = some (ai G 8 Z2) := (nfr3 _ (by omega)).trans hz__1
          have fr__2 : ∀ q : Nat, (q < x ∨ x + 140 < q) → h50 q = h q := fun q hq => (nfr3 q (by omega)).trans (fr__1 q hq)
          have hS3 := hS2.sP nP (fun q g => nfr3 q (by omega))
          obtain ⟨K5, F5, Z5, hFC⟩ := FA.fc hS3.2.1
          refine g_aload_n k rfl dX9_make_53 ?_
          refine g_get k 9 0 (C := RX9) (T := TX9) (N := 15) fl_X9_12 rfl wi_X9 (by decide) rfl hx__2 rfl dX9_make_54 ?_
          refine g_cVv k 0 (As := []) v_X0_clear rfl rfl hf__2 ml_X9_263 (c_X0_clear hFC) (by omega) (by omega) rfl (Nat.le_of_ble_eq_true rfl) rfl dX9_make_57 (fun h57 p57 => ?_)
          obtain ⟨⟨na, nk, nf, nz2⟩, nfr4⟩ := p57
          have hx__3 : h57 x = some (ob 9 [.ref (x + 1), .ref (x + 5), .ref (x + 9), .ref (x + 43), .ref (x + 52), .ref (x + 53), .ref (x + 56), .ref (x + 59), .ref (x + 61), .ref (x + 68), .ref (x + 130), .ref (x + 132), .ref (x + 133), .ref (x + 135), vi sd]) := (nfr4 _ (by omega)).trans hx__2
          have hf__3 : h57 (x + 1) = some (ob 0 [vi 0, vi 0, .ref (x + 1 + 1), .ref (x + 1 + 2), .ref (x + 1 + 3)]) := na
          have hs__3 : h57 (x + 130) = some (ob 6 [.ref (x + 130 + 1)]) := (nfr4 _ (by omega)).trans hs__2
          have hz__3 : h57 (x + 132) = some (ai G 8 Z2) := (nfr4 _ (by omega)).trans hz__2
          have fr__3 : ∀ q : Nat, (q < x ∨ x + 140 < q) → h57 q = h q := fun q hq => (nfr4 q (by omega)).trans (fr__2 q hq)
          refine g_aload_n k rfl dX9_make_60 ?_
          refine g_get k 9 0 (C := RX9) (T := TX9) (N := 15) fl_X9_12 rfl wi_X9 (by decide) rfl hx__3 rfl dX9_make_61 ?_
          refine g_iload_n k rfl dX9_make_64 ?_
          refine g_put k 0 0 (C := RX0) (T := TX0) (N := 5) fl_X9_120 rfl wi_X0 tyX0 tyX0_ok nmX0 (by decide) rfl rfl rfl rfl hf__3 (Nat.le_of_ble_eq_true rfl) (fs2 := [vi (n1 : Int), vi 0, .ref (x + 1 + 1), .ref (x + 1 + 2), .ref (x + 1 + 3)]) rfl rfl dX9_make_65 (fun h65 eh65 => ?_)
          have hx__4 : h65 x = some (ob 9 [.ref (x + 1), .ref (x + 5), .ref (x + 9), .ref (x + 43), .ref (x + 52), .ref (x + 53), .ref (x + 56), .ref (x + 59), .ref (x + 61), .ref (x + 68), .ref (x + 130), .ref (x + 132), .ref (x + 133), .ref (x + 135), vi sd]) := (congrFun eh65 _).trans ((hup_n (by omega)).trans hx__3)
          have hf__4 : h65 (x + 1) = some (ob 0 [vi (n1 : Int), vi 0, .ref (x + 1 + 1), .ref (x + 1 + 2), .ref (x + 1 + 3)]) := (congrFun eh65 _).trans hup_s
          have hs__4 : h65 (x + 130) = some (ob 6 [.ref (x + 130 + 1)]) := (congrFun eh65 _).trans ((hup_n (by omega)).trans hs__3)
          have hz__4 : h65 (x + 132) = some (ai G 8 Z2) := (congrFun eh65 _).trans ((hup_n (by omega)).trans hz__3)
          have fr__4 : ∀ q : Nat, (q < x ∨ x + 140 < q) → h65 q = h q := fun q hq => (congrFun eh65 q).trans ((hup_n (by omega)).trans (fr__3 q hq))
          have hFA0 : FA G h65 (x + 1) n1 (mkO (spl n1 r1) n1 0) := ⟨K5, F5, Z5, hf__4, (congrFun eh65 _).trans ((hup_n (by omega)).trans nk), (congrFun eh65 _).trans ((hup_n (by omega)).trans nf), (congrFun eh65 _).trans ((hup_n (by omega)).trans nz2), Rows.nil⟩
          refine g_iconst k dX9_make_68 ?_
          refine g_istore_n k (lv2 := [(0, .ref x), (1, vi (n1 : Int)), (2, vi (r1 : Int)), (3, vi 0)]) (by decide) rfl rfl dX9_make_69 ?_
          have K70 : ∀ (nz : Nat) (a : Nat) (h70 : Hp) (hx__5 : h70 x = some (ob 9 [.ref (x + 1), .ref (x + 5), .ref (x + 9), .ref (x + 43), .ref (x + 52), .ref (x + 53), .ref (x + 56), .ref (x + 59), .ref (x + 61), .ref (x + 68), .ref (x + 130), .ref (x + 132), .ref (x + 133), .ref (x + 135), vi sd])) (hf__5 : h70 (x + 1) = some (ob 0 [vi (n1 : Int), vi ((mkO (spl n1 r1) n1 a).length : Int), .ref (x + 1 + 1), .ref (x + 1 + 2), .ref (x + 1 + 3)])) (hs__5 : h70 (x + 130) = some (ob 6 [.ref (x + 130 + 1)])) (hz__5 : h70 (x + 132) = some (ai G 8 Z2)) (fr__5 : ∀ q : Nat, (q < x ∨ x + 140 < q) → h70 q = h q) (ha : a ≤ n1) (hFA : FA G h70 (x + 1) n1 (mkO (spl n1 r1) n1 a)) (hfr5 : ∀ q : Nat, (q < x + 1 ∨ x + 4 < q) → h70 q = h50 q) (hmz : n1 - a < nz), Go G X 5 QQ 0 0 nx 70 [(0, .ref x), (1, vi (n1 : Int)), (2, vi (r1 : Int)), (3, vi (a : Int))] [] h70 := by
            intro nz
            induction nz with
            | zero => intro a h70 hx__5 hf__5 hs__5 hz__5 fr__5 ha hFA hfr5 hmz; exact absurd hmz (Nat.not_lt_zero _)
            | succ nz ih70 =>
              intro a h70 hx__5 hf__5 hs__5 hz__5 fr__5 ha hFA hfr5 hmz
              refine g_iload_n k rfl dX9_make_70 ?_
              refine g_iload_n k rfl dX9_make_71 ?_
              refine g_icmp_ge k (tgt := 124) (by omega) (by omega) dX9_make_72 (by decide) (fun c72 => ?_) (fun c72 => ?_)
              · skip
                refine g_aload_n k rfl dX9_make_124 ?_
                refine g_get k 9 0 (C := RX9) (T := TX9) (N := 15) fl_X9_12 rfl wi_X9 (by decide) rfl hx__5 rfl dX9_make_125 ?_
                refine g_get k 0 1 (C := RX0) (T := TX0) (N := 5) fl_X9_123 rfl wi_X0 (by decide) rfl hf__5 rfl dX9_make_128 ?_
                rw [← hQQ]
                refine g_ireti k rfl dX9_make_131 ?_
                have e1 : a = n1 := by omega
                subst e1
                have e : mkT it φ ps p p2 = (((mkO (spl a r1) a a).length : Int), a, mkO (spl a r1) a a, psh ps (it, φ)) := by unfold mkT; rw [if_pos (by rw [show p.toNat = a by omega]; omega), show p.toNat = a by omega, show p2.toNat = r1 by omega]
                rw [e]
                exact ⟨rfl, hS3.sF hFA hfr5, fr__5⟩
              · skip
                refine g_iload_n k rfl dX9_make_75 ?_
                refine g_iconst k dX9_make_76 ?_
                refine g_iadd k dX9_make_77 ?_
                refine g_istore k (lv2 := [(0, .ref x), (1, vi (n1 : Int)), (2, vi (r1 : Int)), (3, vi (a : Int)), (4, vi ((a : Int) + 1))]) (by decide) rfl rfl dX9_make_78 ?_
                have K80 : ∀ (nz_1 : Nat) (m : Nat) (h80 : Hp) (hx__6 : h80 x = some (ob 9 [.ref (x + 1), .ref (x + 5), .ref (x + 9), .ref (x + 43), .ref (x + 52), .ref (x + 53), .ref (x + 56), .ref (x + 59), .ref (x + 61), .ref (x + 68), .ref (x + 130), .ref (x + 132), .ref (x + 133), .ref (x + 135), vi sd])) (hf__6 : h80 (x + 1) = some (ob 0 [vi (n1 : Int), vi ((mkO (spl n1 r1) n1 a ++ mkI (spl n1 r1) a m).length : Int), .ref (x + 1 + 1), .ref (x + 1 + 2), .ref (x + 1 + 3)])) (hs__6 : h80 (x + 130) = some (ob 6 [.ref (x + 130 + 1)])) (hz__6 : h80 (x + 132) = some (ai G 8 Z2)) (fr__6 : ∀ q : Nat, (q < x ∨ x + 140 < q) → h80 q = h q) (hm : m ≤ n1 - (a + 1)) (hFA2 : FA G h80 (x + 1) n1 (mkO (spl n1 r1) n1 a ++ mkI (spl n1 r1) a m)) (hfr6 : ∀ q : Nat, (q < x + 1 ∨ x + 4 < q) → h80 q = h50 q) (hmz_1 : n1 - (a + 1) - m < nz_1), Go G X 5 QQ 0 0 nx 80 [(0, .ref x), (1, vi (n1 : Int)), (2, vi (r1 : Int)), (3, vi (a : Int)), (4, vi ((a + 1 + m : Nat) : Int))] [] h80 := by
                  intro nz_1
                  induction nz_1 with
                  | zero => intro m h80 hx__6 hf__6 hs__6 hz__6 fr__6 hm hFA2 hfr6 hmz_1; exact absurd hmz_1 (Nat.not_lt_zero _)
                  | succ nz_1 ih80 =>
                    intro m h80 hx__6 hf__6 hs__6 hz__6 fr__6 hm hFA2 hfr6 hmz_1
                    refine g_iload k rfl dX9_make_80 ?_
                    refine g_iload_n k rfl dX9_make_82 ?_
                    refine g_icmp_ge k (tgt := 118) (by omega) (by omega) dX9_make_83 (by decide) (fun c83 => ?_) (fun c83 => ?_)
                    · skip
                      refine g_iinc k (lv2 := [(0, .ref x), (1, vi (n1 : Int)), (2, vi (r1 : Int)), (3, vi ((a : Int) + 1)), (4, vi ((a + 1 + m : Nat) : Int))]) rfl (by decide) rfl rfl dX9_make_118 ?_
                      refine g_goto k (tgt := 70) dX9_make_121 (by decide) ?_
                      refine g_less (lv2 := [(0, .ref x), (1, vi (n1 : Int)), (2, vi (r1 : Int)), (3, vi ((a : Int) + 1))]) ⟨rfl, rfl, rfl, rfl, trivial⟩ ?_
                      have em : mkO (spl n1 r1) n1 (a + 1) = (mkO (spl n1 r1) n1 a ++ mkI (spl n1 r1) a m) := by rw [mkO, show m = n1 - (a + 1) by omega]
                      rw [← em] at hf__6
                      exact ih70 (a + 1) h80 hx__6 hf__6 hs__6 hz__6 fr__6 (by omega) (by rw [em]; exact hFA2) hfr6 (by omega)
                    · skip
                      have hcm := cmF_b n1 (by omega) a (by omega) m (by omega)
                      have hml : (mkO (spl n1 r1) n1 a ++ mkI (spl n1 r1) a m).length = cmF n1 a + m := by rw [List.length_append, mkO_len, mkI_len]
                      obtain ⟨K3, F3, Z3, -, k3, f3, z3, hrr⟩ := id hFA2
                      refine g_aload_n k rfl dX9_make_86 ?_
                      refine g_get k 9 0 (C := RX9) (T := TX9) (N := 15) fl_X9_12 rfl wi_X9 (by decide) rfl hx__6 rfl dX9_make_87 ?_
                      refine g_iload_n k rfl dX9_make_90 ?_
                      refine g_aload_n k rfl dX9_make_91 ?_
                      refine g_get k 9 11 (C := RX9) (T := TX9) (N := 15) fl_X9_72 rfl wi_X9 (by decide) rfl hx__6 rfl dX9_make_92 ?_
                      refine g_iload k rfl dX9_make_95 ?_
                      refine g_iald k (a + 1 + m) hz__6 (by omega) (by omega) (by decide) dX9_make_97 ?_
                      rw [show Z2 (a + 1 + m) = (spl n1 r1 (a + 1 + m) : Int) from (hZ2 _ (by omega))]
                      have hsb : spl n1 r1 (a + 1 + m) ≤ a + 1 + m := by
                        have := (spS_b (n := n1) (r := r1) (a + 1 + m + 1)).1
                        unfold spl; omega
                      have K106 : ∀ (kz : Nat) (hkz : kz = (if a < spl n1 r1 (a + 1 + m) then 0 else 1)), Go G X 5 QQ 0 0 nx 106 [(0, .ref x), (1, vi (n1 : Int)), (2, vi (r1 : Int)), (3, vi (a : Int)), (4, vi ((a + 1 + m : Nat) : Int))] [vi (kz : Int), .ref (x + 1)] h80 := by
                        intro kz hkz
                        refine g_iload_n k rfl dX9_make_106 ?_
                        refine g_iload k rfl dX9_make_107 ?_
                        refine g_cVv k 0 (As := [vi (kz : Int), vi (a : Int), vi ((a + 1 + m : Nat) : Int)]) v_X0_add rfl rfl hf__6 ml_X9_172 (c_X0_add (x := (kz : Int)) (y := (a : Int)) (z := ((a + 1 + m : Nat) : Int)) ⟨hf__6, k3, f3, z3⟩ (by omega)) (by omega) (by omega) rfl (Nat.le_of_ble_eq_true rfl) rfl dX9_make_109 (fun h109 p109 => ?_)
                        obtain ⟨⟨na, nk, nf, nz2⟩, nfr5⟩ := p109
                        have hx__7 : h109 x = some (ob 9 [.ref (x + 1), .ref (x + 5), .ref (x + 9), .ref (x + 43), .ref (x + 52), .ref (x + 53), .ref (x + 56), .ref (x + 59), .ref (x + 61), .ref (x + 68), .ref (x + 130), .ref (x + 132), .ref (x + 133), .ref (x + 135), vi sd]) := (nfr5 _ (by omega)).trans hx__6
                        have hf__7 : h109 (x + 1) = some (ob 0 [vi (n1 : Int), vi (((mkO (spl n1 r1) n1 a ++ mkI (spl n1 r1) a m).length + 1 : Nat) : Int), .ref (x + 1 + 1), .ref (x + 1 + 2), .ref (x + 1 + 3)]) := na
                        have hs__7 : h109 (x + 130) = some (ob 6 [.ref (x + 130 + 1)]) := (nfr5 _ (by omega)).trans hs__6
                        have hz__7 : h109 (x + 132) = some (ai G 8 Z2) := (nfr5 _ (by omega)).trans hz__6
                        have fr__7 : ∀ q : Nat, (q < x ∨ x + 140 < q) → h109 q = h q := fun q hq => (nfr5 q (by omega)).trans (fr__6 q hq)
                        have hFA3 : FA G h109 (x + 1) n1 ((mkO (spl n1 r1) n1 a ++ mkI (spl n1 r1) a m) ++ [(kz, a, a + 1 + m)]) := ⟨_, _, _, by rw [show ((mkO (spl n1 r1) n1 a ++ mkI (spl n1 r1) a m) ++ [(kz, a, a + 1 + m)]).length = (mkO (spl n1 r1) n1 a ++ mkI (spl n1 r1) a m).length + 1 from List.length_append]; exact na, nk, nf, nz2, hrr.add⟩
                        refine g_iinc k (lv2 := [(0, .ref x), (1, vi (n1 : Int)), (2, vi (r1 : Int)), (3, vi (a : Int)), (4, vi (((a + 1 + m : Nat) : Int) + 1))]) rfl (by decide) rfl rfl dX9_make_112 ?_
                        refine g_goto k (tgt := 80) dX9_make_115 (by decide) ?_
                        have em1 : mkO (spl n1 r1) n1 a ++ mkI (spl n1 r1) a (m + 1) = (mkO (spl n1 r1) n1 a ++ mkI (spl n1 r1) a m) ++ [(kz, a, a + 1 + m)] := by rw [mkI, ← hkz, List.append_assoc]
                        rw [show (mkO (spl n1 r1) n1 a ++ mkI (spl n1 r1) a m).length + 1 = (mkO (spl n1 r1) n1 a ++ mkI (spl n1 r1) a (m + 1)).length by rw [em1]; exact (List.length_append (bs := [_])).symm] at hf__7
                        exact ih80 (m + 1) h109 hx__7 hf__7 hs__7 hz__7 fr__7 (by omega) (by rw [em1]; exact hFA3) (fun q g => (nfr5 q (by omega)).trans (hfr6 q g)) (by omega)
                      refine g_icmp_ge k (tgt := 105) (by omega) (by omega) dX9_make_98 (by decide) (fun c98 => ?_) (fun c98 => ?_)
                      · skip
                        refine g_iconst k dX9_make_105 ?_
                        exact K106 1 (by rw [if_neg (by omega)])
                      · skip
                        refine g_iconst k dX9_make_101 ?_
                        refine g_goto k (tgt := 106) dX9_make_102 (by decide) ?_
                        exact K106 0 (by rw [if_pos (by omega)])
                have em0 : mkO (spl n1 r1) n1 a ++ mkI (spl n1 r1) a 0 = mkO (spl n1 r1) n1 a := by rw [mkI, List.append_nil]
                rw [← em0] at hf__5
                exact K80 _ 0 h70 hx__5 hf__5 hs__5 hz__5 fr__5 (Nat.zero_le _) (by rw [em0]; exact hFA) hfr5 (Nat.lt_succ_self _)
          exact K70 _ 0 h65 hx__4 hf__4 hs__4 hz__4 fr__4 (Nat.zero_le _) hFA0 (fun q g => (congrFun eh65 q).trans ((hup_n (by omega)).trans (nfr4 q (by omega)))) (Nat.lt_succ_self _)
        · skip
          refine g_iconst k dX9_make_27 ?_
          rw [← hQQ]
          refine g_ireti k rfl dX9_make_28 ?_
          have e : mkT it φ ps p p2 = (-1, it, φ, ps) := by unfold mkT; rw [if_neg (by rw [show p.toNat = n1 by omega]; omega)]
          rw [e]
          exact ⟨rfl, hS1, fr_⟩

theorem skN_hit {φ : Fs} {w it k x y : Nat} (hx : x < it) (hy : y < it) (h : rfd φ w it k x y) : 0 < (skN φ w it k x y).1 ∧ (skN φ w it k x y).1 < it ∧ hit φ w k (skN φ w it k x y).2.1 (skN φ w it k x y).2.2 (skN φ w it k x y).1 ∧ (skN φ w it k x y).2.1 < it ∧ (skN φ w it k x y).2.2 < it := by
  unfold rfd at h
  have f1 := fews_is φ w it k x y
  have f2 := fews_is φ w it k y x
  by_cases c : fews φ w it k x y ≠ 0 ∧ ((if k = 1 then fews φ w it k y x else 0) = 0 ∨ fews φ w it k x y ≤ (if k = 1 then fews φ w it k y x else 0))
  · have e : skN φ w it k x y = (fews φ w it k x y, x, y) := if_pos c
    rw [e]
    rcases f1 with q | q
    · exact absurd q.1 c.1
    · exact ⟨q.1, q.2.1, q.2.2.1, hx, hy⟩
  · have e : skN φ w it k x y = ((if k = 1 then fews φ w it k y x else 0), y, x) := if_neg c
    rw [e] at h ⊢
    by_cases c2 : k = 1
    · rw [if_pos c2] at h ⊢
      rcases f2 with q | q
      · rw [q.1] at h; exact absurd h (Nat.lt_irrefl 0)
      · exact ⟨q.1, q.2.1, q.2.2.1, hy, hx⟩
    · rw [if_neg c2] at h
      exact absurd h (Nat.lt_irrefl 0)
theorem sk_row {φ : Fs} {w it k x y : Nat} (hS : Sm it φ) (hx : x < it) (hy : y < it) (h : rfd φ w it k x y) (V : RV) : ∀ i, i < (skN φ w it k x y).1 → 0 ≤ (skV φ w it k x y V).2.2.2.2 i ∧ (skV φ w it k x y V).2.2.2.2 i < φ.length := by
  obtain ⟨h1, h2, h3, h4, h5⟩ := skN_hit hx hy h
  intro i hi
  rw [skV, if_pos h1]
  have hg := (tr_go hS h4 h5 h2 h3 (skN φ w it k x y).1 (Nat.le_refl _)).1 i hi
  have hb := sr_b (P := stp φ w (fwL φ w (skN φ w it k x y).2.1 (skN φ w it k x y).1) (trS φ w (fwL φ w (skN φ w it k x y).2.1 (skN φ w it k x y).1) k (skN φ w it k x y).2.2 (skN φ w it k x y).1 i).1 (trS φ w (fwL φ w (skN φ w it k x y).2.1 (skN φ w it k x y).1) k (skN φ w it k x y).2.2 (skN φ w it k x y).1 i).2.1 ((skN φ w it k x y).1 - 1 - i)) (n := φ.length)
  show 0 ≤ trK _ _ _ _ _ _ _ ∧ trK _ _ _ _ _ _ _ < _
  unfold trK at hg ⊢
  omega
theorem skV_1 {φ : Fs} {w it k x y : Nat} {V : RV} (h : rfd φ w it k x y) : (skV φ w it k x y V).1 = ((skN φ w it k x y).1 : Int) + 1 := by rw [skV, if_pos (show 0 < (skN φ w it k x y).1 from h)]
theorem skV_r {φ : Fs} {w it k x y : Nat} {V V' : RV} (h : rfd φ w it k x y) : (skV φ w it k x y V).2.2.2.2 = (skV φ w it k x y V').2.2.2.2 := by rw [skV, skV, if_pos (show 0 < (skN φ w it k x y).1 from h), if_pos (show 0 < (skN φ w it k x y).1 from h)]
theorem rbF_ext {r s : Nat → Int} : ∀ n, (∀ i, i < n → r i = s i) → rbF r n = rbF s n
  | 0, _ => rfl
  | n + 1, h => by unfold rbF; rw [rbF_ext n (fun i hi => h i (by omega)), h n (by omega)]
noncomputable def rgB (φ : Fs) (w it k x y : Nat) : Nat := rbF (skV φ w it k x y (0, 0, 0, 0, fun _ => 0)).2.2.2.2 (skN φ w it k x y).1
noncomputable def bsF (f : Nat → Int) (b : Nat) : Nat → Int
  | 0 => -1
  | n + 1 => if b / 2 ^ n % 2 = 1 ∧ f n ≠ -1 ∧ (bsF f b n = -1 ∨ f n < bsF f b n) then f n else bsF f b n
theorem bsF_b {f : Nat → Int} {b : Nat} {B : Int} (hB : -1 ≤ B) : ∀ n, (∀ k, k < n → -1 ≤ f k ∧ f k ≤ B) → -1 ≤ bsF f b n ∧ bsF f b n ≤ B
  | 0, _ => ⟨Int.le_refl _, hB⟩
  | n + 1, h => by
    have h1 := bsF_b (b := b) hB n (fun k hk => h k (by omega))
    have h2 := h n (by omega)
    unfold bsF
    split
    · exact h2
    · exact h1
noncomputable def lsY (φ : Fs) (it k x y : Nat) : Nat → Nat → Int
  | 0, g => haveI := Classical.propDecidable (rfd φ g it k x y); if rfd φ g it k x y then -1 else g
  | l + 1, g => haveI := Classical.propDecidable (rfd φ g it k x y); if rfd φ g it k x y then bsF (fun j => lsY φ it k x y l (g ||| 2 ^ j)) (rgB φ g it k x y) φ.length else g
theorem or28 {g j : Nat} (hg : g < 268435456) (hj : j < 28) : g ||| 2 ^ j < 268435456 := Nat.or_lt_two_pow (n := 28) hg (pw28 hj)
theorem lsY_b {φ : Fs} {it k x y : Nat} (h28 : φ.length ≤ 28) : ∀ l g, g < 268435456 → -1 ≤ lsY φ it k x y l g ∧ lsY φ it k x y l g ≤ 268435455
  | 0, g, h => by unfold lsY; split <;> omega
  | l + 1, g, h => by
    unfold lsY
    split
    · exact bsF_b (by omega) φ.length (fun j hj => lsY_b h28 l _ (or28 h (by omega)))
    · omega
def LyC (G : Gx) (x it : Nat) (φ : Fs) (ps : List (Nat × Fs)) (im : Nat → Option (Nat × Fs)) (V : RV) (n : Nat) (T : Nat → Int) (ft k1 x1 y1 : Nat) (l : Nat) : Prop := ∀ (h : Hp) (nx g : Nat), SF G h x it φ ps im V n T ft → g < 268435456 → Con G yX9_leastYield cX9_leastYield 6 (some .int) (5 + 2 * l) 0 0 [.ref x, vi (k1 : Int), vi (x1 : Int), vi (y1 : Int), vi (g : Int), vi (l : Int)] h nx (PI fun z h' => z = lsY φ it k1 x1 y1 l g ∧ SF G h' x it φ ps im V n T ft ∧ ∀ q : Nat, (q < x + 56 ∨ x + 58 < q) → h' q = h q)
def LrC (G : Gx) (x it : Nat) (φ : Fs) (ps : List (Nat × Fs)) (im : Nat → Option (Nat × Fs)) (V : RV) (n : Nat) (T : Nat → Int) (ft k1 x1 y1 : Nat) (l : Nat) : Prop := ∀ (h : Hp) (nx g : Nat) (V0 : RV), SF G h x it φ ps im V n T ft → g < 268435456 → GV G h (x + 56) (skV φ g it k1 x1 y1 V0) → rfd φ g it k1 x1 y1 → Con G yX9_leastOfRing cX9_leastOfRing 10 (some .int) (6 + 2 * l) 0 0 [.ref x, vi (k1 : Int), vi (x1 : Int), vi (y1 : Int), vi (g : Int), vi ((l + 1 : Nat) : Int)] h nx (PI fun z h' => z = bsF (fun j => lsY φ it k1 x1 y1 l (g ||| 2 ^ j)) (rgB φ g it k1 x1 y1) φ.length ∧ SF G h' x it φ ps im V n T ft ∧ ∀ q : Nat, (q < x + 56 ∨ x + 58 < q) → h' q = h q)
set_option maxHeartbeats 1200000 in
set_option maxRecDepth 100000 in
theorem b_X9_leastOfRing {G : Gx} {x it : Nat} {φ : Fs} {ps : List (Nat × Fs)} {im : Nat → Option (Nat × Fs)} {V : RV} {n : Nat} {T : Nat → Int} {ft : Nat} (hSm : Sm it φ) {k1 x1 y1 : Nat} (hk1 : k1 ≤ 1) (hx1 : x1 < it) (hy1 : y1 < it) {l : Nat} (hly : LyC G x it φ ps im V n T ft k1 x1 y1 l) : LrC G x it φ ps im V n T ft k1 x1 y1 l := by
  intro h nx g V0 hS hg hGV hrf
  obtain ⟨⟨sd, hx⟩, cF, cM, cP, cI, cV, cK, cR, cO, cW, cS, cZ, cT, cD⟩ := id hS
  have cF : FA G h (x + 1) it φ := cF
  have cP : PA G h (x + 9) ps := cP
  have cV : GV G h (x + 53) V := cV
  have cT : TA G h (x + 133) n T := cT
  have hf := cF.ob
  have hp := cP.ob
  have hv := cV.ob
  have ht := cT.1
  have h28 := hSm.2.1
  have h8 := hSm.1
  obtain ⟨rw9, S9, hG9, hrw9⟩ := hGV
  have hsk1 := skV_1 (V := V0) hrf
  rw [hsk1] at hG9 hrw9
  have hk9 := hG9.1
  have hrow := sk_row hSm hx1 hy1 hrf V0
  have hskn := skN_hit hx1 hy1 hrf
  have erb : rbF rw9 (skN φ g it k1 x1 y1).1 = rgB φ g it k1 x1 y1 := rbF_ext _ (fun i hi => by rw [hrw9 i (by omega), skV_r (V' := (0, 0, 0, 0, fun _ => 0)) hrf])
  have hrgl : rgB φ g it k1 x1 y1 < 268435456 := by rw [← erb]; exact rbF_lt _ (fun i hi => by have := hrow i hi; rw [hrw9 i (by omega)]; omega)
  have hlb := fun j (hj : j < 28) => lsY_b (φ := φ) (it := it) (k := k1) (x := x1) (y := y1) h28 l (g ||| 2 ^ j) (or28 hg hj)
  refine Con.of v_X9_leastOfRing.2.2.2.2.2.1 (Nat.le_of_ble_eq_true rfl) (lv := [(0, .ref x), (1, vi (k1 : Int)), (2, vi (x1 : Int)), (3, vi (y1 : Int)), (4, vi (g : Int)), (5, vi ((l + 1 : Nat) : Int))]) rfl (fun X k => ?_)
  generalize hQQ : QM G X nx 0 0 _ = QQ
  have fr0 : ∀ q : Nat, (q < x + 56 ∨ x + 58 < q) → h q = h q := fun _ _ => rfl
  refine g_aload_n k rfl dX9_leastOfRing_0 ?_
  refine g_get k 9 6 (C := RX9) (T := TX9) (N := 15) fl_X9_41 rfl wi_X9 (by decide) rfl hx rfl dX9_leastOfRing_1 ?_
  refine g_cVi k 5 (As := []) v_X5_bits rfl rfl hk9 ml_X9_307 (c_X5_bits hG9 (by omega) (fun i hi => by have := hrow i hi; rw [hrw9 i (by omega)]; omega)) (by omega) (by omega) rfl (Nat.le_of_ble_eq_true rfl) rfl dX9_leastOfRing_4 (fun r4 h4 p4 => ?_)
  obtain ⟨eh4, p4⟩ := p4
  have eh4 := eh4.symm; subst eh4
  subst p4
  rw [erb]
  refine g_istore k (lv2 := [(0, .ref x), (1, vi (k1 : Int)), (2, vi (x1 : Int)), (3, vi (y1 : Int)), (4, vi (g : Int)), (5, vi ((l + 1 : Nat) : Int)), (6, vi (rgB φ g it k1 x1 y1 : Int))]) (by decide) rfl rfl dX9_leastOfRing_7 ?_
  refine g_iconst k dX9_leastOfRing_9 ?_
  refine g_istore k (lv2 := [(0, .ref x), (1, vi (k1 : Int)), (2, vi (x1 : Int)), (3, vi (y1 : Int)), (4, vi (g : Int)), (5, vi ((l + 1 : Nat) : Int)), (6, vi (rgB φ g it k1 x1 y1 : Int)), (7, vi (-1))]) (by decide) rfl rfl dX9_leastOfRing_10 ?_
  refine g_iconst k dX9_leastOfRing_12 ?_
  refine g_istore k (lv2 := [(0, .ref x), (1, vi (k1 : Int)), (2, vi (x1 : Int)), (3, vi (y1 : Int)), (4, vi (g : Int)), (5, vi ((l + 1 : Nat) : Int)), (6, vi (rgB φ g it k1 x1 y1 : Int)), (7, vi (-1)), (8, vi 0)]) (by decide) rfl rfl dX9_leastOfRing_13 ?_
  have K15 : ∀ (nz : Nat) (v : Nat) (h15 : Hp) (hx_ : h15 x = some (ob 9 [.ref (x + 1), .ref (x + 5), .ref (x + 9), .ref (x + 43), .ref (x + 52), .ref (x + 53), .ref (x + 56), .ref (x + 59), .ref (x + 61), .ref (x + 68), .ref (x + 130), .ref (x + 132), .ref (x + 133), .ref (x + 135), vi sd])) (hf_ : h15 (x + 1) = some (ob 0 [vi (it : Int), vi (φ.length : Int), .ref (x + 1 + 1), .ref (x + 1 + 2), .ref (x + 1 + 3)])) (fr_ : ∀ q : Nat, (q < x + 56 ∨ x + 58 < q) → h15 q = h q) (hv : v ≤ φ.length) (hS2 : SF G h15 x it φ ps im V n T ft) (hmz : φ.length - v < nz), Go G X 10 QQ 0 0 nx 15 [(0, .ref x), (1, vi (k1 : Int)), (2, vi (x1 : Int)), (3, vi (y1 : Int)), (4, vi (g : Int)), (5, vi ((l + 1 : Nat) : Int)), (6, vi (rgB φ g it k1 x1 y1 : Int)), (7, vi (bsF (fun j => lsY φ it k1 x1 y1 l (g ||| 2 ^ j)) (rgB φ g it k1 x1 y1) v)), (8, vi (v : Int))] [] h15 := by
    intro nz
    induction nz with
    | zero => intro v h15 hx_ hf_ fr_ hv hS2 hmz; exact absurd hmz (Nat.not_lt_zero _)
    | succ nz ih15 =>
      intro v h15 hx_ hf_ fr_ hv hS2 hmz
      refine g_iload k rfl dX9_leastOfRing_15 ?_
      refine g_aload_n k rfl dX9_leastOfRing_17 ?_
      refine g_get k 9 0 (C := RX9) (T := TX9) (N := 15) fl_X9_12 rfl wi_X9 (by decide) rfl hx_ rfl dX9_leastOfRing_18 ?_
      refine g_get k 0 1 (C := RX0) (T := TX0) (N := 5) fl_X9_123 rfl wi_X0 (by decide) rfl hf_ rfl dX9_leastOfRing_21 ?_
      refine g_icmp_ge k (tgt := 87) (by omega) (by omega) dX9_leastOfRing_24 (by decide) (fun c24 => ?_) (fun c24 => ?_)
      · skip
        refine g_iload k rfl dX9_leastOfRing_87 ?_
        rw [← hQQ]
        refine g_ireti k rfl dX9_leastOfRing_89 ?_
        have e : v = φ.length := by omega
        subst e
        exact ⟨rfl, hS2, fr_⟩
      · skip
        have hp := pow31 (n := v) (by omega)
        have hbb := bsF_b (f := fun j => lsY φ it k1 x1 y1 l (g ||| 2 ^ j)) (b := rgB φ g it k1 x1 y1) (B := 268435455) (by omega) v (fun j hj => hlb j (by omega))
        have hlv := hlb v (by omega)
        have hb2 : rgB φ g it k1 x1 y1 / 2 ^ v % 2 < 2 := Nat.mod_lt _ (by decide)
        refine g_iload k rfl dX9_leastOfRing_27 ?_
        refine g_iload k rfl dX9_leastOfRing_29 ?_
        refine g_ishr k (by omega) (by omega) dX9_leastOfRing_31 ?_
        refine g_iconst k dX9_leastOfRing_32 ?_
        refine g_iandm k 1 (by decide) (by decide) dX9_leastOfRing_33 ?_
        rw [show ((rgB φ g it k1 x1 y1 : Int) / 2 ^ ((v : Int)).toNat) % 2 ^ 1 = ((rgB φ g it k1 x1 y1 / 2 ^ v % 2 : Nat) : Int) from ibit]
        refine g_iconst k dX9_leastOfRing_34 ?_
        refine g_icmp_ne k (tgt := 81) (by omega) (by omega) dX9_leastOfRing_35 (by decide) (fun c35 => ?_) (fun c35 => ?_)
        · skip
          refine g_iinc k (lv2 := [(0, .ref x), (1, vi (k1 : Int)), (2, vi (x1 : Int)), (3, vi (y1 : Int)), (4, vi (g : Int)), (5, vi ((l + 1 : Nat) : Int)), (6, vi (rgB φ g it k1 x1 y1 : Int)), (7, vi (bsF (fun j => lsY φ it k1 x1 y1 l (g ||| 2 ^ j)) (rgB φ g it k1 x1 y1) v)), (8, vi ((v : Int) + 1))]) rfl (by decide) rfl rfl dX9_leastOfRing_81 ?_
          refine g_goto k (tgt := 15) dX9_leastOfRing_84 (by decide) ?_
          rw [show bsF (fun j => lsY φ it k1 x1 y1 l (g ||| 2 ^ j)) (rgB φ g it k1 x1 y1) v = bsF (fun j => lsY φ it k1 x1 y1 l (g ||| 2 ^ j)) (rgB φ g it k1 x1 y1) (v + 1) by rw [bsF, if_neg (by omega)]]
          exact ih15 (v + 1) h15 hx_ hf_ fr_ (by omega) hS2 (by omega)
        · skip
          refine g_aload_n k rfl dX9_leastOfRing_38 ?_
          refine g_iload_n k rfl dX9_leastOfRing_39 ?_
          refine g_iload_n k rfl dX9_leastOfRing_40 ?_
          refine g_iload_n k rfl dX9_leastOfRing_41 ?_
          refine g_iload k rfl dX9_leastOfRing_42 ?_
          refine g_iconst k dX9_leastOfRing_44 ?_
          refine g_iload k rfl dX9_leastOfRing_45 ?_
          refine g_ishl k (by omega) dX9_leastOfRing_47 ?_
          rw [show 1 * 2 ^ ((v : Int)).toNat = ((2 ^ v : Nat) : Int) from (by rw [Int.toNat_natCast]; simp)]
          refine g_ior k (a := g) (b := 2 ^ v) (by omega) (by omega) dX9_leastOfRing_48 ?_
          refine g_iload k rfl dX9_leastOfRing_49 ?_
          refine g_iconst k dX9_leastOfRing_51 ?_
          refine g_isub k dX9_leastOfRing_52 ?_
          rw [show ((l + 1 : Nat) : Int) - 1 = (l : Int) from (by omega)]
          refine g_cVi k 9 (As := [vi (k1 : Int), vi (x1 : Int), vi (y1 : Int), vi ((g ||| 2 ^ v : Nat) : Int), vi (l : Int)]) v_X9_leastYield rfl rfl hx_ ml_X9_218 (hly h15 nx (g ||| 2 ^ v) hS2 (or28 hg (by omega))) (by omega) (by omega) rfl (Nat.le_of_ble_eq_true rfl) rfl dX9_leastOfRing_53 (fun r53 h53 p53 => ?_)
          obtain ⟨p53e, hS3, nfr⟩ := p53
          subst p53e
          have hx__1 : h53 x = some (ob 9 [.ref (x + 1), .ref (x + 5), .ref (x + 9), .ref (x + 43), .ref (x + 52), .ref (x + 53), .ref (x + 56), .ref (x + 59), .ref (x + 61), .ref (x + 68), .ref (x + 130), .ref (x + 132), .ref (x + 133), .ref (x + 135), vi sd]) := (nfr _ (by omega)).trans hx_
          have hf__1 : h53 (x + 1) = some (ob 0 [vi (it : Int), vi (φ.length : Int), .ref (x + 1 + 1), .ref (x + 1 + 2), .ref (x + 1 + 3)]) := (nfr _ (by omega)).trans hf_
          have fr__1 : ∀ q : Nat, (q < x + 56 ∨ x + 58 < q) → h53 q = h q := fun q hq => (nfr q (by omega)).trans (fr_ q hq)
          refine g_istore k (lv2 := [(0, .ref x), (1, vi (k1 : Int)), (2, vi (x1 : Int)), (3, vi (y1 : Int)), (4, vi (g : Int)), (5, vi ((l + 1 : Nat) : Int)), (6, vi (rgB φ g it k1 x1 y1 : Int)), (7, vi (bsF (fun j => lsY φ it k1 x1 y1 l (g ||| 2 ^ j)) (rgB φ g it k1 x1 y1) v)), (8, vi (v : Int)), (9, vi (lsY φ it k1 x1 y1 l (g ||| 2 ^ v)))]) (by decide) rfl rfl dX9_leastOfRing_56 ?_
          refine g_iload k rfl dX9_leastOfRing_58 ?_
          refine g_iconst k dX9_leastOfRing_60 ?_
          refine g_icmp_eq k (tgt := 81) (by omega) (by omega) dX9_leastOfRing_61 (by decide) (fun c61 => ?_) (fun c61 => ?_)
          · skip
            refine g_iinc k (lv2 := [(0, .ref x), (1, vi (k1 : Int)), (2, vi (x1 : Int)), (3, vi (y1 : Int)), (4, vi (g : Int)), (5, vi ((l + 1 : Nat) : Int)), (6, vi (rgB φ g it k1 x1 y1 : Int)), (7, vi (bsF (fun j => lsY φ it k1 x1 y1 l (g ||| 2 ^ j)) (rgB φ g it k1 x1 y1) v)), (8, vi ((v : Int) + 1)), (9, vi (lsY φ it k1 x1 y1 l (g ||| 2 ^ v)))]) rfl (by decide) rfl rfl dX9_leastOfRing_81 ?_
            refine g_goto k (tgt := 15) dX9_leastOfRing_84 (by decide) ?_
            refine g_less (lv2 := [(0, .ref x), (1, vi (k1 : Int)), (2, vi (x1 : Int)), (3, vi (y1 : Int)), (4, vi (g : Int)), (5, vi ((l + 1 : Nat) : Int)), (6, vi (rgB φ g it k1 x1 y1 : Int)), (7, vi (bsF (fun j => lsY φ it k1 x1 y1 l (g ||| 2 ^ j)) (rgB φ g it k1 x1 y1) v)), (8, vi ((v : Int) + 1))]) ⟨rfl, rfl, rfl, rfl, rfl, rfl, rfl, rfl, rfl, trivial⟩ ?_
            rw [show bsF (fun j => lsY φ it k1 x1 y1 l (g ||| 2 ^ j)) (rgB φ g it k1 x1 y1) v = bsF (fun j => lsY φ it k1 x1 y1 l (g ||| 2 ^ j)) (rgB φ g it k1 x1 y1) (v + 1) by rw [bsF, if_neg (by omega)]]
            exact ih15 (v + 1) h53 hx__1 hf__1 fr__1 (by omega) hS3 (by omega)
          · skip
            refine g_iload k rfl dX9_leastOfRing_64 ?_
            refine g_iconst k dX9_leastOfRing_66 ?_
            refine g_icmp_eq k (tgt := 77) (by omega) (by omega) dX9_leastOfRing_67 (by decide) (fun c67 => ?_) (fun c67 => ?_)
            · skip
              refine g_iload k rfl dX9_leastOfRing_77 ?_
              refine g_istore k (lv2 := [(0, .ref x), (1, vi (k1 : Int)), (2, vi (x1 : Int)), (3, vi (y1 : Int)), (4, vi (g : Int)), (5, vi ((l + 1 : Nat) : Int)), (6, vi (rgB φ g it k1 x1 y1 : Int)), (7, vi (lsY φ it k1 x1 y1 l (g ||| 2 ^ v))), (8, vi (v : Int)), (9, vi (lsY φ it k1 x1 y1 l (g ||| 2 ^ v)))]) (by decide) rfl rfl dX9_leastOfRing_79 ?_
              refine g_iinc k (lv2 := [(0, .ref x), (1, vi (k1 : Int)), (2, vi (x1 : Int)), (3, vi (y1 : Int)), (4, vi (g : Int)), (5, vi ((l + 1 : Nat) : Int)), (6, vi (rgB φ g it k1 x1 y1 : Int)), (7, vi (lsY φ it k1 x1 y1 l (g ||| 2 ^ v))), (8, vi ((v : Int) + 1)), (9, vi (lsY φ it k1 x1 y1 l (g ||| 2 ^ v)))]) rfl (by decide) rfl rfl dX9_leastOfRing_81 ?_
              refine g_goto k (tgt := 15) dX9_leastOfRing_84 (by decide) ?_
              have eb : bsF (fun j => lsY φ it k1 x1 y1 l (g ||| 2 ^ j)) (rgB φ g it k1 x1 y1) (v + 1) = lsY φ it k1 x1 y1 l (g ||| 2 ^ v) := by rw [bsF, if_pos (by omega)]
              refine g_less (lv2 := [(0, .ref x), (1, vi (k1 : Int)), (2, vi (x1 : Int)), (3, vi (y1 : Int)), (4, vi (g : Int)), (5, vi ((l + 1 : Nat) : Int)), (6, vi (rgB φ g it k1 x1 y1 : Int)), (7, vi (bsF (fun j => lsY φ it k1 x1 y1 l (g ||| 2 ^ j)) (rgB φ g it k1 x1 y1) (v + 1))), (8, vi ((v : Int) + 1))]) ⟨rfl, rfl, rfl, rfl, rfl, rfl, rfl, (by rw [eb]; rfl), rfl, trivial⟩ ?_
              exact ih15 (v + 1) h53 hx__1 hf__1 fr__1 (by omega) hS3 (by omega)
            · skip
              refine g_iload k rfl dX9_leastOfRing_70 ?_
              refine g_iload k rfl dX9_leastOfRing_72 ?_
              refine g_icmp_ge k (tgt := 81) (by omega) (by omega) dX9_leastOfRing_74 (by decide) (fun c74 => ?_) (fun c74 => ?_)
              · skip
                refine g_iinc k (lv2 := [(0, .ref x), (1, vi (k1 : Int)), (2, vi (x1 : Int)), (3, vi (y1 : Int)), (4, vi (g : Int)), (5, vi ((l + 1 : Nat) : Int)), (6, vi (rgB φ g it k1 x1 y1 : Int)), (7, vi (bsF (fun j => lsY φ it k1 x1 y1 l (g ||| 2 ^ j)) (rgB φ g it k1 x1 y1) v)), (8, vi ((v : Int) + 1)), (9, vi (lsY φ it k1 x1 y1 l (g ||| 2 ^ v)))]) rfl (by decide) rfl rfl dX9_leastOfRing_81 ?_
                refine g_goto k (tgt := 15) dX9_leastOfRing_84 (by decide) ?_
                refine g_less (lv2 := [(0, .ref x), (1, vi (k1 : Int)), (2, vi (x1 : Int)), (3, vi (y1 : Int)), (4, vi (g : Int)), (5, vi ((l + 1 : Nat) : Int)), (6, vi (rgB φ g it k1 x1 y1 : Int)), (7, vi (bsF (fun j => lsY φ it k1 x1 y1 l (g ||| 2 ^ j)) (rgB φ g it k1 x1 y1) v)), (8, vi ((v : Int) + 1))]) ⟨rfl, rfl, rfl, rfl, rfl, rfl, rfl, rfl, rfl, trivial⟩ ?_
                rw [show bsF (fun j => lsY φ it k1 x1 y1 l (g ||| 2 ^ j)) (rgB φ g it k1 x1 y1) v = bsF (fun j => lsY φ it k1 x1 y1 l (g ||| 2 ^ j)) (rgB φ g it k1 x1 y1) (v + 1) by rw [bsF, if_neg (by omega)]]
                exact ih15 (v + 1) h53 hx__1 hf__1 fr__1 (by omega) hS3 (by omega)
              · skip
                refine g_iload k rfl dX9_leastOfRing_77 ?_
                refine g_istore k (lv2 := [(0, .ref x), (1, vi (k1 : Int)), (2, vi (x1 : Int)), (3, vi (y1 : Int)), (4, vi (g : Int)), (5, vi ((l + 1 : Nat) : Int)), (6, vi (rgB φ g it k1 x1 y1 : Int)), (7, vi (lsY φ it k1 x1 y1 l (g ||| 2 ^ v))), (8, vi (v : Int)), (9, vi (lsY φ it k1 x1 y1 l (g ||| 2 ^ v)))]) (by decide) rfl rfl dX9_leastOfRing_79 ?_
                refine g_iinc k (lv2 := [(0, .ref x), (1, vi (k1 : Int)), (2, vi (x1 : Int)), (3, vi (y1 : Int)), (4, vi (g : Int)), (5, vi ((l + 1 : Nat) : Int)), (6, vi (rgB φ g it k1 x1 y1 : Int)), (7, vi (lsY φ it k1 x1 y1 l (g ||| 2 ^ v))), (8, vi ((v : Int) + 1)), (9, vi (lsY φ it k1 x1 y1 l (g ||| 2 ^ v)))]) rfl (by decide) rfl rfl dX9_leastOfRing_81 ?_
                refine g_goto k (tgt := 15) dX9_leastOfRing_84 (by decide) ?_
                have eb : bsF (fun j => lsY φ it k1 x1 y1 l (g ||| 2 ^ j)) (rgB φ g it k1 x1 y1) (v + 1) = lsY φ it k1 x1 y1 l (g ||| 2 ^ v) := by rw [bsF, if_pos (by omega)]
                refine g_less (lv2 := [(0, .ref x), (1, vi (k1 : Int)), (2, vi (x1 : Int)), (3, vi (y1 : Int)), (4, vi (g : Int)), (5, vi ((l + 1 : Nat) : Int)), (6, vi (rgB φ g it k1 x1 y1 : Int)), (7, vi (bsF (fun j => lsY φ it k1 x1 y1 l (g ||| 2 ^ j)) (rgB φ g it k1 x1 y1) (v + 1))), (8, vi ((v : Int) + 1))]) ⟨rfl, rfl, rfl, rfl, rfl, rfl, rfl, (by rw [eb]; rfl), rfl, trivial⟩ ?_
                exact ih15 (v + 1) h53 hx__1 hf__1 fr__1 (by omega) hS3 (by omega)
  exact K15 _ 0 h hx hf fr0 (Nat.zero_le _) hS (Nat.lt_succ_self _)

set_option maxHeartbeats 1200000 in
set_option maxRecDepth 100000 in
theorem b_X9_leastYield0 {G : Gx} {x it : Nat} {φ : Fs} {ps : List (Nat × Fs)} {im : Nat → Option (Nat × Fs)} {V : RV} {n : Nat} {T : Nat → Int} {ft : Nat} (hSm : Sm it φ) {k1 x1 y1 : Nat} (hk1 : k1 ≤ 1) (hx1 : x1 < it) (hy1 : y1 < it) : LyC G x it φ ps im V n T ft k1 x1 y1 0 := by
  intro h nx g hS hg
  obtain ⟨⟨sd, hx⟩, cF, cM, cP, cI, cV, cK, cR, cO, cW, cS, cZ, cT, cD⟩ := id hS
  have cF : FA G h (x + 1) it φ := cF
  have cP : PA G h (x + 9) ps := cP
  have cV : GV G h (x + 53) V := cV
  have cT : TA G h (x + 133) n T := cT
  have hf := cF.ob
  have hp := cP.ob
  have hv := cV.ob
  have ht := cT.1
  have h28 := hSm.2.1
  obtain ⟨W, hGW⟩ := cK
  have hGW : GV G h (x + 56) W := hGW
  have hk9 := hGW.ob
  refine Con.of v_X9_leastYield.2.2.2.2.2.1 (Nat.le_of_ble_eq_true rfl) (lv := [(0, .ref x), (1, vi (k1 : Int)), (2, vi (x1 : Int)), (3, vi (y1 : Int)), (4, vi (g : Int)), (5, vi ((0 : Nat) : Int))]) rfl (fun X k => ?_)
  generalize hQQ : QM G X nx 0 0 _ = QQ
  have fr0 : ∀ q : Nat, (q < x + 56 ∨ x + 58 < q) → h q = h q := fun _ _ => rfl
  refine g_aload_n k rfl dX9_leastYield_0 ?_
  refine g_get k 9 6 (C := RX9) (T := TX9) (N := 15) fl_X9_41 rfl wi_X9 (by decide) rfl hx rfl dX9_leastYield_1 ?_
  refine g_aload_n k rfl dX9_leastYield_4 ?_
  refine g_get k 9 0 (C := RX9) (T := TX9) (N := 15) fl_X9_12 rfl wi_X9 (by decide) rfl hx rfl dX9_leastYield_5 ?_
  refine g_iload k rfl dX9_leastYield_8 ?_
  refine g_iload_n k rfl dX9_leastYield_10 ?_
  refine g_iload_n k rfl dX9_leastYield_11 ?_
  refine g_iload_n k rfl dX9_leastYield_12 ?_
  refine g_cVi k 5 (As := [.ref (x + 1), vi (g : Int), vi (k1 : Int), vi (x1 : Int), vi (y1 : Int)]) v_X5_seek rfl rfl hk9 ml_X9_165 (c_seekV hGW cF hSm (by omega) (w := g) hg (k1 := k1) (x := x1) (y := y1) hk1 hx1 hy1) (by omega) (by omega) rfl (Nat.le_of_ble_eq_true rfl) rfl dX9_leastYield_13 (fun r13 h13 p13 => ?_)
  obtain ⟨sz, nV, nfr⟩ := p13
  have hx_ : h13 x = some (ob 9 [.ref (x + 1), .ref (x + 5), .ref (x + 9), .ref (x + 43), .ref (x + 52), .ref (x + 53), .ref (x + 56), .ref (x + 59), .ref (x + 61), .ref (x + 68), .ref (x + 130), .ref (x + 132), .ref (x + 133), .ref (x + 135), vi sd]) := (nfr _ (by omega)).trans hx
  have hf_ : h13 (x + 1) = some (ob 0 [vi (it : Int), vi (φ.length : Int), .ref (x + 1 + 1), .ref (x + 1 + 2), .ref (x + 1 + 3)]) := (nfr _ (by omega)).trans hf
  have fr_ : ∀ q : Nat, (q < x + 56 ∨ x + 58 < q) → h13 q = h q := fun q hq => (nfr q (by omega)).trans (fr0 q hq)
  have szr := sz.r
  have hS1 := hS.sK ⟨_, nV⟩ (fun q g => nfr q (by omega))
  refine g_if_ne k (tgt := 22) (by omega) dX9_leastYield_16 (by decide) (fun c16 => ?_) (fun c16 => ?_)
  · skip
    refine g_iload k rfl dX9_leastYield_22 ?_
    refine g_if_gt k (tgt := 31) (by omega) dX9_leastYield_24 (by decide) (fun c24 => ?_) (fun c24 => ?_)
    · skip
      omega
    · skip
      refine g_iconst k dX9_leastYield_27 ?_
      refine g_goto k (tgt := 42) dX9_leastYield_28 (by decide) ?_
      rw [← hQQ]
      refine g_ireti k rfl dX9_leastYield_42 ?_
      exact ⟨by rw [lsY, if_pos (sz.t (by omega))], hS1, fr_⟩
  · skip
    refine g_iload k rfl dX9_leastYield_19 ?_
    rw [← hQQ]
    refine g_ireti k rfl dX9_leastYield_21 ?_
    exact ⟨by rw [lsY, if_neg (sz.f (by omega))], hS1, fr_⟩

set_option maxHeartbeats 1200000 in
set_option maxRecDepth 100000 in
theorem b_X9_leastYield {G : Gx} {x it : Nat} {φ : Fs} {ps : List (Nat × Fs)} {im : Nat → Option (Nat × Fs)} {V : RV} {n : Nat} {T : Nat → Int} {ft : Nat} (hSm : Sm it φ) {k1 x1 y1 : Nat} (hk1 : k1 ≤ 1) (hx1 : x1 < it) (hy1 : y1 < it) {l : Nat} (hl3 : l ≤ 3) (hlr : LrC G x it φ ps im V n T ft k1 x1 y1 l) : LyC G x it φ ps im V n T ft k1 x1 y1 (l + 1) := by
  intro h nx g hS hg
  obtain ⟨⟨sd, hx⟩, cF, cM, cP, cI, cV, cK, cR, cO, cW, cS, cZ, cT, cD⟩ := id hS
  have cF : FA G h (x + 1) it φ := cF
  have cP : PA G h (x + 9) ps := cP
  have cV : GV G h (x + 53) V := cV
  have cT : TA G h (x + 133) n T := cT
  have hf := cF.ob
  have hp := cP.ob
  have hv := cV.ob
  have ht := cT.1
  have h28 := hSm.2.1
  obtain ⟨W, hGW⟩ := cK
  have hGW : GV G h (x + 56) W := hGW
  have hk9 := hGW.ob
  refine Con.of v_X9_leastYield.2.2.2.2.2.1 (Nat.le_of_ble_eq_true rfl) (lv := [(0, .ref x), (1, vi (k1 : Int)), (2, vi (x1 : Int)), (3, vi (y1 : Int)), (4, vi (g : Int)), (5, vi ((l + 1 : Nat) : Int))]) rfl (fun X k => ?_)
  generalize hQQ : QM G X nx 0 0 _ = QQ
  have fr0 : ∀ q : Nat, (q < x + 56 ∨ x + 58 < q) → h q = h q := fun _ _ => rfl
  refine g_aload_n k rfl dX9_leastYield_0 ?_
  refine g_get k 9 6 (C := RX9) (T := TX9) (N := 15) fl_X9_41 rfl wi_X9 (by decide) rfl hx rfl dX9_leastYield_1 ?_
  refine g_aload_n k rfl dX9_leastYield_4 ?_
  refine g_get k 9 0 (C := RX9) (T := TX9) (N := 15) fl_X9_12 rfl wi_X9 (by decide) rfl hx rfl dX9_leastYield_5 ?_
  refine g_iload k rfl dX9_leastYield_8 ?_
  refine g_iload_n k rfl dX9_leastYield_10 ?_
  refine g_iload_n k rfl dX9_leastYield_11 ?_
  refine g_iload_n k rfl dX9_leastYield_12 ?_
  refine g_cVi k 5 (As := [.ref (x + 1), vi (g : Int), vi (k1 : Int), vi (x1 : Int), vi (y1 : Int)]) v_X5_seek rfl rfl hk9 ml_X9_165 (c_seekV hGW cF hSm (by omega) (w := g) hg (k1 := k1) (x := x1) (y := y1) hk1 hx1 hy1) (by omega) (by omega) rfl (Nat.le_of_ble_eq_true rfl) rfl dX9_leastYield_13 (fun r13 h13 p13 => ?_)
  obtain ⟨sz, nV, nfr⟩ := p13
  have hx_ : h13 x = some (ob 9 [.ref (x + 1), .ref (x + 5), .ref (x + 9), .ref (x + 43), .ref (x + 52), .ref (x + 53), .ref (x + 56), .ref (x + 59), .ref (x + 61), .ref (x + 68), .ref (x + 130), .ref (x + 132), .ref (x + 133), .ref (x + 135), vi sd]) := (nfr _ (by omega)).trans hx
  have hf_ : h13 (x + 1) = some (ob 0 [vi (it : Int), vi (φ.length : Int), .ref (x + 1 + 1), .ref (x + 1 + 2), .ref (x + 1 + 3)]) := (nfr _ (by omega)).trans hf
  have fr_ : ∀ q : Nat, (q < x + 56 ∨ x + 58 < q) → h13 q = h q := fun q hq => (nfr q (by omega)).trans (fr0 q hq)
  have szr := sz.r
  have hS1 := hS.sK ⟨_, nV⟩ (fun q g => nfr q (by omega))
  refine g_if_ne k (tgt := 22) (by omega) dX9_leastYield_16 (by decide) (fun c16 => ?_) (fun c16 => ?_)
  · skip
    refine g_iload k rfl dX9_leastYield_22 ?_
    refine g_if_gt k (tgt := 31) (by omega) dX9_leastYield_24 (by decide) (fun c24 => ?_) (fun c24 => ?_)
    · skip
      refine g_aload_n k rfl dX9_leastYield_31 ?_
      refine g_iload_n k rfl dX9_leastYield_32 ?_
      refine g_iload_n k rfl dX9_leastYield_33 ?_
      refine g_iload_n k rfl dX9_leastYield_34 ?_
      refine g_iload k rfl dX9_leastYield_35 ?_
      refine g_iload k rfl dX9_leastYield_37 ?_
      refine g_cVi k 9 (As := [vi (k1 : Int), vi (x1 : Int), vi (y1 : Int), vi (g : Int), vi ((l + 1 : Nat) : Int)]) v_X9_leastOfRing rfl rfl hx_ ml_X9_304 (hlr h13 nx g W hS1 hg nV (sz.t (by omega))) (by omega) (by omega) rfl (Nat.le_of_ble_eq_true rfl) rfl dX9_leastYield_39 (fun r39 h39 p39 => ?_)
      obtain ⟨p39e, hS2, nfr2⟩ := p39
      subst p39e
      have hx__1 : h39 x = some (ob 9 [.ref (x + 1), .ref (x + 5), .ref (x + 9), .ref (x + 43), .ref (x + 52), .ref (x + 53), .ref (x + 56), .ref (x + 59), .ref (x + 61), .ref (x + 68), .ref (x + 130), .ref (x + 132), .ref (x + 133), .ref (x + 135), vi sd]) := (nfr2 _ (by omega)).trans hx_
      have hf__1 : h39 (x + 1) = some (ob 0 [vi (it : Int), vi (φ.length : Int), .ref (x + 1 + 1), .ref (x + 1 + 2), .ref (x + 1 + 3)]) := (nfr2 _ (by omega)).trans hf_
      have fr__1 : ∀ q : Nat, (q < x + 56 ∨ x + 58 < q) → h39 q = h q := fun q hq => (nfr2 q (by omega)).trans (fr_ q hq)
      rw [← hQQ]
      refine g_ireti k rfl dX9_leastYield_42 ?_
      exact ⟨by rw [lsY, if_pos (sz.t (by omega))], hS2, fr__1⟩
    · skip
      omega
  · skip
    refine g_iload k rfl dX9_leastYield_19 ?_
    rw [← hQQ]
    refine g_ireti k rfl dX9_leastYield_21 ?_
    exact ⟨by rw [lsY, if_neg (sz.f (by omega))], hS1, fr_⟩

theorem c_X9_leastYield {G : Gx} {x it : Nat} {φ : Fs} {ps : List (Nat × Fs)} {im : Nat → Option (Nat × Fs)} {V : RV} {n : Nat} {T : Nat → Int} {ft : Nat} (hSm : Sm it φ) {k1 x1 y1 : Nat} (hk1 : k1 ≤ 1) (hx1 : x1 < it) (hy1 : y1 < it) : ∀ l, l ≤ 4 → LyC G x it φ ps im V n T ft k1 x1 y1 l
  | 0, _ => b_X9_leastYield0 hSm hk1 hx1 hy1
  | l + 1, h => b_X9_leastYield hSm hk1 hx1 hy1 (by omega) (b_X9_leastOfRing hSm hk1 hx1 hy1 (c_X9_leastYield hSm hk1 hx1 hy1 l (by omega)))
noncomputable def ylN (φ : Fs) (it k x y : Nat) : Nat → Nat → Int
  | 0, _ => -2
  | m + 1, f => if lsY φ it k x y f 0 = -1 then ylN φ it k x y m (f + 1) else lsY φ it k x y f 0
set_option maxHeartbeats 600000 in
set_option maxRecDepth 100000 in
theorem c_X9_yields {G : Gx} {h : Hp} {nx x : Nat} {it : Nat} {φ : Fs} {ps : List (Nat × Fs)} {im : Nat → Option (Nat × Fs)} {V : RV} {n : Nat} {T : Nat → Int} {ft : Nat} (hS : SF G h x it φ ps im V n T ft) (hSm : Sm it φ) {kx p p2 : Int} (rkx : -2147483648 ≤ kx ∧ kx ≤ 2147483647) (rp : -2147483648 ≤ p ∧ p ≤ 2147483647) (rp2 : -2147483648 ≤ p2 ∧ p2 ≤ 2147483647) : Con G yX9_yields cX9_yields 6 (some .int) 13 0 0 [.ref x, vi kx, vi p, vi p2] h nx (PI fun z h' => ((nmd it φ kx p p2 → z = ylN φ it kx.toNat p.toNat p2.toNat 4 0) ∧ (¬ nmd it φ kx p p2 → z = -1)) ∧ SF G h' x it φ ps im V n T ft ∧ ∀ q : Nat, (q < x ∨ x + 140 < q) → h' q = h q) := by
  obtain ⟨⟨sd, hx⟩, cF, cM, cP, cI, cV, cK, cR, cO, cW, cS, cZ, cT, cD⟩ := id hS
  have cF : FA G h (x + 1) it φ := cF
  have cP : PA G h (x + 9) ps := cP
  have cV : GV G h (x + 53) V := cV
  have cT : TA G h (x + 133) n T := cT
  have hf := cF.ob
  have hp := cP.ob
  have hv := cV.ob
  have ht := cT.1
  have h28 := hSm.2.1
  refine Con.of v_X9_yields.2.2.2.2.2.1 (Nat.le_of_ble_eq_true rfl) (lv := [(0, .ref x), (1, vi kx), (2, vi p), (3, vi p2)]) rfl (fun X k => ?_)
  generalize hQQ : QM G X nx 0 0 _ = QQ
  have fr0 : ∀ q : Nat, (q < x ∨ x + 140 < q) → h q = h q := fun _ _ => rfl
  refine g_aload_n k rfl dX9_yields_0 ?_
  refine g_iload_n k rfl dX9_yields_1 ?_
  refine g_iload_n k rfl dX9_yields_2 ?_
  refine g_iload_n k rfl dX9_yields_3 ?_
  refine g_cVi k 9 (As := [vi kx, vi p, vi p2]) v_X9_canBeNamed rfl rfl hx ml_X9_161 (c_X9_canBeNamed hS hSm rkx rp rp2) (by omega) (by omega) rfl (Nat.le_of_ble_eq_true rfl) rfl dX9_yields_4 (fun r4 h4 p4 => ?_)
  obtain ⟨eh4, p4⟩ := p4
  have eh4 := eh4.symm; subst eh4
  have q4 := p4
  have q4r := q4.r
  refine g_if_ne k (tgt := 12) (by omega) dX9_yields_7 (by decide) (fun c7 => ?_) (fun c7 => ?_)
  · skip
    have hnd := q4.t (by omega)
    obtain ⟨k1, ek1⟩ : ∃ k1 : Nat, kx = k1 := ⟨kx.toNat, by have := hnd.1; omega⟩
    obtain ⟨x1, ex1, hx1⟩ := nat_of hnd.2.1.1
    obtain ⟨y1, ey1, hy1⟩ := nat_of hnd.2.1.2.1
    have hk1 : k1 ≤ 1 := by have := hnd.1; omega
    have hne : x1 ≠ y1 := by have := hnd.2.1.2.2; omega
    have hix : ix φ (x1 : Int) (y1 : Int) = -1 := by rw [← ex1, ← ey1]; exact hnd.2.2
    have hnd2 : nmd it φ (k1 : Int) (x1 : Int) (y1 : Int) := by rw [← ek1, ← ex1, ← ey1]; exact hnd
    rw [ek1, ex1, ey1]
    rw [ek1, ex1, ey1] at hQQ
    refine g_iconst k dX9_yields_12 ?_
    refine g_istore k (lv2 := [(0, .ref x), (1, vi (k1 : Int)), (2, vi (x1 : Int)), (3, vi (y1 : Int)), (4, vi 0)]) (by decide) rfl rfl dX9_yields_13 ?_
    have K15 : ∀ (nz : Nat) (f : Nat) (h15 : Hp) (hx_ : h15 x = some (ob 9 [.ref (x + 1), .ref (x + 5), .ref (x + 9), .ref (x + 43), .ref (x + 52), .ref (x + 53), .ref (x + 56), .ref (x + 59), .ref (x + 61), .ref (x + 68), .ref (x + 130), .ref (x + 132), .ref (x + 133), .ref (x + 135), vi sd])) (fr_ : ∀ q : Nat, (q < x ∨ x + 140 < q) → h15 q = h q) (hf : f ≤ 4) (hS2 : SF G h15 x it φ ps im V n T ft) (hyl : ylN φ it k1 x1 y1 (4 - f) f = ylN φ it k1 x1 y1 4 0) (hmz : 4 - f < nz), Go G X 6 QQ 0 0 nx 15 [(0, .ref x), (1, vi (k1 : Int)), (2, vi (x1 : Int)), (3, vi (y1 : Int)), (4, vi (f : Int))] [] h15 := by
      intro nz
      induction nz with
      | zero => intro f h15 hx_ fr_ hf hS2 hyl hmz; exact absurd hmz (Nat.not_lt_zero _)
      | succ nz ih15 =>
        intro f h15 hx_ fr_ hf hS2 hyl hmz
        have hlb := lsY_b (φ := φ) (it := it) (k := k1) (x := x1) (y := y1) h28 f 0 (by omega)
        refine g_iload k rfl dX9_yields_15 ?_
        refine g_iconst k dX9_yields_17 ?_
        refine g_icmp_gt k (tgt := 48) (by omega) (by omega) dX9_yields_18 (by decide) (fun c18 => ?_) (fun c18 => ?_)
        · skip
          refine g_bipush k rfl dX9_yields_48 ?_
          rw [← hQQ]
          refine g_ireti k rfl dX9_yields_50 ?_
          refine ⟨⟨fun _ => ?_, fun q => absurd hnd2 q⟩, hS2, fr_⟩
          simp only [Int.toNat_natCast]
          rw [← hyl, show 4 - f = 0 by omega, ylN]
        · skip
          refine g_aload_n k rfl dX9_yields_21 ?_
          refine g_iload_n k rfl dX9_yields_22 ?_
          refine g_iload_n k rfl dX9_yields_23 ?_
          refine g_iload_n k rfl dX9_yields_24 ?_
          refine g_iconst k dX9_yields_25 ?_
          refine g_iload k rfl dX9_yields_26 ?_
          refine g_cVi k 9 (As := [vi (k1 : Int), vi (x1 : Int), vi (y1 : Int), vi 0, vi (f : Int)]) v_X9_leastYield rfl rfl hx_ ml_X9_218 (c_X9_leastYield hSm hk1 hx1 hy1 f (by omega) h15 nx 0 hS2 (by omega)) (by omega) (by omega) rfl (Nat.le_of_ble_eq_true rfl) rfl dX9_yields_28 (fun r28 h28 p28 => ?_)
          obtain ⟨p28e, hS3, nfr⟩ := p28
          subst p28e
          have hx__1 : h28 x = some (ob 9 [.ref (x + 1), .ref (x + 5), .ref (x + 9), .ref (x + 43), .ref (x + 52), .ref (x + 53), .ref (x + 56), .ref (x + 59), .ref (x + 61), .ref (x + 68), .ref (x + 130), .ref (x + 132), .ref (x + 133), .ref (x + 135), vi sd]) := (nfr _ (by omega)).trans hx_
          have fr__1 : ∀ q : Nat, (q < x ∨ x + 140 < q) → h28 q = h q := fun q hq => (nfr q (by omega)).trans (fr_ q hq)
          refine g_istore k (lv2 := [(0, .ref x), (1, vi (k1 : Int)), (2, vi (x1 : Int)), (3, vi (y1 : Int)), (4, vi (f : Int)), (5, vi (lsY φ it k1 x1 y1 f 0))]) (by decide) rfl rfl dX9_yields_31 ?_
          refine g_iload k rfl dX9_yields_33 ?_
          refine g_iconst k dX9_yields_35 ?_
          refine g_icmp_eq k (tgt := 42) (by omega) (by omega) dX9_yields_36 (by decide) (fun c36 => ?_) (fun c36 => ?_)
          · skip
            refine g_iinc k (lv2 := [(0, .ref x), (1, vi (k1 : Int)), (2, vi (x1 : Int)), (3, vi (y1 : Int)), (4, vi ((f : Int) + 1)), (5, vi (lsY φ it k1 x1 y1 f 0))]) rfl (by decide) rfl rfl dX9_yields_42 ?_
            refine g_goto k (tgt := 15) dX9_yields_45 (by decide) ?_
            refine g_less (lv2 := [(0, .ref x), (1, vi (k1 : Int)), (2, vi (x1 : Int)), (3, vi (y1 : Int)), (4, vi ((f : Int) + 1))]) ⟨rfl, rfl, rfl, rfl, rfl, trivial⟩ ?_
            exact ih15 (f + 1) h28 hx__1 fr__1 (by omega) hS3 (by rw [← hyl, show 4 - f = (4 - (f + 1)) + 1 by omega, ylN, if_pos (by omega)]) (by omega)
          · skip
            refine g_iload k rfl dX9_yields_39 ?_
            rw [← hQQ]
            refine g_ireti k rfl dX9_yields_41 ?_
            refine ⟨⟨fun _ => ?_, fun q => absurd hnd2 q⟩, hS3, fr__1⟩
            simp only [Int.toNat_natCast]
            rw [← hyl, show 4 - f = (4 - (f + 1)) + 1 by omega, ylN, if_neg (by omega)]
    exact K15 _ 0 h hx fr0 (Nat.zero_le _) hS rfl (Nat.lt_succ_self _)
  · skip
    refine g_iconst k dX9_yields_10 ?_
    rw [← hQQ]
    refine g_ireti k rfl dX9_yields_11 ?_
    exact ⟨⟨fun q => absurd q (q4.f (by omega)), fun _ => rfl⟩, hS, fr0⟩

