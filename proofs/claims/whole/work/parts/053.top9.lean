/-! drawn -/
noncomputable def ddF (it : Nat) (φ : Fs) (sd : Int) : Prop × Fs × Int := if drZ (sdN sd) 8 = 0 then dgF φ (sdN sd) else dtF it φ (sdN sd)
noncomputable def ddN (it : Nat) (φ : Fs) (sd : Int) : Nat → Nat × Fs × Int
  | 0 => (0, φ, sd)
  | n + 1 => (haveI := Classical.propDecidable (ddF it (ddN it φ sd n).2.1 (ddN it φ sd n).2.2).1; (if (ddF it (ddN it φ sd n).2.1 (ddN it φ sd n).2.2).1 then (ddN it φ sd n).1 + 1 else (ddN it φ sd n).1), (ddF it (ddN it φ sd n).2.1 (ddN it φ sd n).2.2).2.1, (ddF it (ddN it φ sd n).2.1 (ddN it φ sd n).2.2).2.2)
theorem ddN_y {it : Nat} {φ : Fs} {sd : Int} {n : Nat} (h : (ddF it (ddN it φ sd n).2.1 (ddN it φ sd n).2.2).1) : (ddN it φ sd (n + 1)).1 = (ddN it φ sd n).1 + 1 := if_pos h
theorem ddN_n {it : Nat} {φ : Fs} {sd : Int} {n : Nat} (h : ¬ (ddF it (ddN it φ sd n).2.1 (ddN it φ sd n).2.2).1) : (ddN it φ sd (n + 1)).1 = (ddN it φ sd n).1 := if_neg h
theorem Sm_dg {it : Nat} {φ : Fs} (h : Sm it φ) (sd : Int) : Sm it (dgF φ sd).2.1 := by
  unfold dgF
  split
  · exact h
  · have := drZ_b (sdN sd) (n := φ.length) (by omega)
    exact Sm_fgt h (by omega)
theorem Sm_dt {it : Nat} {φ : Fs} (h : Sm it φ) (sd : Int) : Sm it (dtF it φ sd).2.1 := by
  unfold dtF
  split
  · exact h
  · split
    · rename_i c1 c2
      by_cases c3 : opt (wgh φ 0 it) (drZ (sdN sd) it).toNat (dtB it sd).toNat / (if drZ (sdN (sdN (sdN sd))) 2 = 0 then 1 else 4) % 2 = 0
      · rw [if_pos c3]; exact h
      · rw [if_neg c3]
        obtain ⟨k1, ek1⟩ : ∃ k1 : Nat, drZ (sdN (sdN (sdN sd))) 2 = k1 := ⟨(drZ (sdN (sdN (sdN sd))) 2).toNat, by have := c2.1; omega⟩
        obtain ⟨x1, ex1, hx1⟩ := nat_of c2.2.1.1
        obtain ⟨y1, ey1, hy1⟩ := nat_of c2.2.1.2.1
        have h1 := c2.1
        have h2 := c2.2.1.2.2
        have h3 := c2.2.2
        rw [ex1, ey1] at h3
        rw [ek1, ex1, ey1]
        simp only [Int.toNat_natCast]
        exact h.add (k := k1) (x := x1) (y := y1) (by omega) hx1 hy1 (by omega) h3
    · exact h
theorem Sm_dd {it : Nat} {φ : Fs} (h : Sm it φ) (sd : Int) : Sm it (ddF it φ sd).2.1 := by
  unfold ddF
  split
  · exact Sm_dg h _
  · exact Sm_dt h _
theorem Sm_ddN {it : Nat} {φ : Fs} (h : Sm it φ) (sd : Int) : ∀ n, Sm it (ddN it φ sd n).2.1
  | 0 => h
  | n + 1 => Sm_dd (Sm_ddN h sd n) _
theorem ddN_le (it : Nat) (φ : Fs) (sd : Int) : ∀ n, (ddN it φ sd n).1 ≤ n
  | 0 => Nat.le_refl 0
  | n + 1 => by
    have := ddN_le it φ sd n
    by_cases c : (ddF it (ddN it φ sd n).2.1 (ddN it φ sd n).2.2).1
    · rw [ddN_y c]; omega
    · rw [ddN_n c]; omega
noncomputable def dwT (it : Nat) (φ : Fs) (ps : List (Nat × Fs)) (p p2 : Int) : Int × Fs × List (Nat × Fs) := if 1 ≤ p ∧ p ≤ 60 then (((ddN it φ p2 p.toNat).1 : Nat), (ddN it φ p2 p.toNat).2.1, if 0 < (ddN it φ p2 p.toNat).1 then psh ps (it, φ) else ps) else (-1, φ, ps)
set_option maxHeartbeats 600000 in
set_option maxRecDepth 100000 in
theorem c_X9_drawn {G : Gx} {h : Hp} {nx x : Nat} {it : Nat} {φ : Fs} {ps : List (Nat × Fs)} {im : Nat → Option (Nat × Fs)} {V : RV} {n : Nat} {T : Nat → Int} {ft : Nat} (hS : SF G h x it φ ps im V n T ft) (hSm : Sm it φ) {p p2 : Int} (rp : -2147483648 ≤ p ∧ p ≤ 2147483647) : Con G yX9_drawn cX9_drawn 5 (some .int) 5 0 0 [.ref x, vi p, vi p2] h nx (PI fun z h' => z = (dwT it φ ps p p2).1 ∧ SF G h' x it (dwT it φ ps p p2).2.1 (dwT it φ ps p p2).2.2 im V n T ft ∧ ∀ q : Nat, (q < x ∨ x + 140 < q) → h' q = h q) := by
  obtain ⟨⟨sd, hx⟩, cF, cM, cP, cI, cV, cK, cR, cO, cW, cS, cZ, cT, cD⟩ := id hS
  have cF : FA G h (x + 1) it φ := cF
  have cP : PA G h (x + 9) ps := cP
  have cV : GV G h (x + 53) V := cV
  have cT : TA G h (x + 133) n T := cT
  have hf := cF.ob
  have hp := cP.ob
  have hv := cV.ob
  have ht := cT.1
  obtain ⟨im0, mm0, Km, Fm, Sm0, hFM⟩ := cM
  have hFM : FC G h (x + 5) im0 mm0 Km Fm Sm0 := hFM
  have hm := hFM.1
  have h28 := hSm.2.1
  refine Con.of v_X9_drawn.2.2.2.2.2.1 (Nat.le_of_ble_eq_true rfl) (lv := [(0, .ref x), (1, vi p), (2, vi p2)]) rfl (fun X k => ?_)
  generalize hQQ : QM G X nx 0 0 _ = QQ
  have fr0 : ∀ q : Nat, (q < x ∨ x + 140 < q) → h q = h q := fun _ _ => rfl
  refine g_iload_n k rfl dX9_drawn_0 ?_
  refine g_iconst k dX9_drawn_1 ?_
  refine g_icmp_lt k (tgt := 11) (by omega) (by omega) dX9_drawn_2 (by decide) (fun c2 => ?_) (fun c2 => ?_)
  · skip
    refine g_iconst k dX9_drawn_11 ?_
    rw [← hQQ]
    refine g_ireti k rfl dX9_drawn_12 ?_
    have e : dwT it φ ps p p2 = (-1, φ, ps) := by unfold dwT; rw [if_neg (by omega)]
    rw [e]
    exact ⟨rfl, hS, fr0⟩
  · skip
    refine g_iload_n k rfl dX9_drawn_5 ?_
    refine g_bipush k rfl dX9_drawn_6 ?_
    refine g_icmp_le k (tgt := 13) (by omega) (by omega) dX9_drawn_8 (by decide) (fun c8 => ?_) (fun c8 => ?_)
    · skip
      obtain ⟨n1, en1⟩ : ∃ n1 : Nat, p = n1 := ⟨p.toNat, by omega⟩
      rw [en1]
      have hn1 : 1 ≤ n1 ∧ n1 ≤ 60 := by omega
      refine g_aload_n k rfl dX9_drawn_13 ?_
      refine g_get k 9 1 (C := RX9) (T := TX9) (N := 15) fl_X9_16 rfl wi_X9 (by decide) rfl hx rfl dX9_drawn_14 ?_
      refine g_aload_n k rfl dX9_drawn_17 ?_
      refine g_get k 9 0 (C := RX9) (T := TX9) (N := 15) fl_X9_12 rfl wi_X9 (by decide) rfl hx rfl dX9_drawn_18 ?_
      refine g_cVv k 0 (As := [.ref (x + 1)]) v_X0_copyFrom rfl rfl hm ml_X9_113 (c_X0_copyFrom hFM cF h28 (by omega)) (by omega) (by omega) rfl (Nat.le_of_ble_eq_true rfl) rfl dX9_drawn_21 (fun h21 p21 => ?_)
      obtain ⟨nM, nfr⟩ := p21
      have hx_ : h21 x = some (ob 9 [.ref (x + 1), .ref (x + 5), .ref (x + 9), .ref (x + 43), .ref (x + 52), .ref (x + 53), .ref (x + 56), .ref (x + 59), .ref (x + 61), .ref (x + 68), .ref (x + 130), .ref (x + 132), .ref (x + 133), .ref (x + 135), vi sd]) := (nfr _ (by omega)).trans hx
      have fr_ : ∀ q : Nat, (q < x ∨ x + 140 < q) → h21 q = h q := fun q hq => (nfr q (by omega)).trans (fr0 q hq)
      have hS1 := hS.sM (h' := h21) (by obtain ⟨K, F, S, hq⟩ := nM.fc; exact ⟨_, _, K, F, S, hq⟩) (fun q g => nfr q (by omega))
      refine g_aload_n k rfl dX9_drawn_24 ?_
      refine g_iload_n k rfl dX9_drawn_25 ?_
      refine g_put k 9 14 (C := RX9) (T := TX9) (N := 15) fl_X9_92 rfl wi_X9 tyX9 tyX9_ok nmX9 (by decide) rfl rfl rfl rfl hx_ (Nat.le_of_ble_eq_true rfl) (fs2 := [.ref (x + 1), .ref (x + 5), .ref (x + 9), .ref (x + 43), .ref (x + 52), .ref (x + 53), .ref (x + 56), .ref (x + 59), .ref (x + 61), .ref (x + 68), .ref (x + 130), .ref (x + 132), .ref (x + 133), .ref (x + 135), vi p2]) rfl rfl dX9_drawn_26 (fun h26 eh26 => ?_)
      have hx__1 : h26 x = some (ob 9 [.ref (x + 1), .ref (x + 5), .ref (x + 9), .ref (x + 43), .ref (x + 52), .ref (x + 53), .ref (x + 56), .ref (x + 59), .ref (x + 61), .ref (x + 68), .ref (x + 130), .ref (x + 132), .ref (x + 133), .ref (x + 135), vi p2]) := (congrFun eh26 _).trans hup_s
      have fr__1 : ∀ q : Nat, (q < x ∨ x + 140 < q) → h26 q = h q := fun q hq => (congrFun eh26 q).trans ((hup_n (by omega)).trans (fr_ q hq))
      have hS2 := hS1.s0 (h' := h26) ⟨p2, hx__1⟩ (fun q g => (congrFun eh26 q).trans (hup_n (by omega)))
      have nM2 : FA G h26 (x + 5) it φ := nM.keep (fun q g1 g2 => (congrFun eh26 q).trans (hup_n (by omega)))
      refine g_iconst k dX9_drawn_29 ?_
      refine g_istore_n k (lv2 := [(0, .ref x), (1, vi (n1 : Int)), (2, vi p2), (3, vi 0)]) (by decide) rfl rfl dX9_drawn_30 ?_
      refine g_iconst k dX9_drawn_31 ?_
      refine g_istore k (lv2 := [(0, .ref x), (1, vi (n1 : Int)), (2, vi p2), (3, vi 0), (4, vi 0)]) (by decide) rfl rfl dX9_drawn_32 ?_
      have K34 : ∀ (nz : Nat) (v : Nat) (h34 : Hp) (hx__2 : h34 x = some (ob 9 [.ref (x + 1), .ref (x + 5), .ref (x + 9), .ref (x + 43), .ref (x + 52), .ref (x + 53), .ref (x + 56), .ref (x + 59), .ref (x + 61), .ref (x + 68), .ref (x + 130), .ref (x + 132), .ref (x + 133), .ref (x + 135), vi ((ddN it φ p2 v).2.2)])) (fr__2 : ∀ q : Nat, (q < x ∨ x + 140 < q) → h34 q = h q) (hv : v ≤ n1) (hS6 : SF G h34 x it (ddN it φ p2 v).2.1 ps im V n T ft) (hM6 : FA G h34 (x + 5) it φ) (hmz : n1 - v < nz), Go G X 5 QQ 0 0 nx 34 [(0, .ref x), (1, vi (n1 : Int)), (2, vi p2), (3, vi ((ddN it φ p2 v).1 : Int)), (4, vi (v : Int))] [] h34 := by
        intro nz
        induction nz with
        | zero => intro v h34 hx__2 fr__2 hv hS6 hM6 hmz; exact absurd hmz (Nat.not_lt_zero _)
        | succ nz ih34 =>
          intro v h34 hx__2 fr__2 hv hS6 hM6 hmz
          have hsm := Sm_ddN hSm p2 v
          have hcl := ddN_le it φ p2 v
          refine g_iload k rfl dX9_drawn_34 ?_
          refine g_iload_n k rfl dX9_drawn_36 ?_
          refine g_icmp_ge k (tgt := 75) (by omega) (by omega) dX9_drawn_37 (by decide) (fun c37 => ?_) (fun c37 => ?_)
          · skip
            have K85 : ∀ (zz : Int) (hzz : bz (0 < (ddN it φ p2 v).1) zz), Go G X 5 QQ 0 0 nx 85 [(0, .ref x), (1, vi (n1 : Int)), (2, vi p2), (3, vi ((ddN it φ p2 v).1 : Int)), (4, vi (v : Int))] [vi zz, .ref x] h34 := by
              intro zz hzz
              refine g_cVv k 9 (As := [vi zz]) v_X9_keepMarkIf rfl rfl hx__2 ml_X9_274 (c_X9_keepMarkIf hS6 hM6 h28 hzz) (by omega) (by omega) rfl (Nat.le_of_ble_eq_true rfl) rfl dX9_drawn_85 (fun h85 p85 => ?_)
              obtain ⟨nS, nfr8⟩ := p85
              have fr__3 : ∀ q : Nat, (q < x ∨ x + 140 < q) → h85 q = h q := fun q hq => (nfr8 q (by omega)).trans (fr__2 q hq)
              refine g_iload_n k rfl dX9_drawn_88 ?_
              rw [← hQQ]
              refine g_ireti k rfl dX9_drawn_89 ?_
              have e1 : v = n1 := by omega
              subst e1
              have e : dwT it φ ps p p2 = (((ddN it φ p2 v).1 : Int), (ddN it φ p2 v).2.1, if 0 < (ddN it φ p2 v).1 then psh ps (it, φ) else ps) := by unfold dwT; rw [if_pos (by omega), show p.toNat = v by omega]
              rw [e]
              refine ⟨rfl, ?_, fr__3⟩
              dsimp only
              by_cases c : 0 < (ddN it φ p2 v).1
              · rw [if_pos c] at nS ⊢; exact nS
              · rw [if_neg c] at nS ⊢; exact nS
            refine g_aload_n k rfl dX9_drawn_75 ?_
            refine g_iload_n k rfl dX9_drawn_76 ?_
            refine g_if_le k (tgt := 84) (by omega) dX9_drawn_77 (by decide) (fun c77 => ?_) (fun c77 => ?_)
            · skip
              refine g_iconst k dX9_drawn_84 ?_
              exact K85 _ (bz.n (by omega))
            · skip
              refine g_iconst k dX9_drawn_80 ?_
              refine g_goto k (tgt := 85) dX9_drawn_81 (by decide) ?_
              exact K85 _ (bz.y (by omega))
          · skip
            refine g_aload_n k rfl dX9_drawn_40 ?_
            refine g_bipush k rfl dX9_drawn_41 ?_
            refine g_cVi k 9 (As := [vi 8]) v_X9_draw rfl rfl hx__2 ml_X9_284 (c_X9_draw hx__2 (n := 8) (by omega)) (by omega) (by omega) rfl (Nat.le_of_ble_eq_true rfl) rfl dX9_drawn_43 (fun r43 h43 p43 => ?_)
            obtain ⟨p43e, nx5, nfr5⟩ := p43
            subst p43e
            have hx__4 : h43 x = some (ob 9 [.ref (x + 1), .ref (x + 5), .ref (x + 9), .ref (x + 43), .ref (x + 52), .ref (x + 53), .ref (x + 56), .ref (x + 59), .ref (x + 61), .ref (x + 68), .ref (x + 130), .ref (x + 132), .ref (x + 133), .ref (x + 135), vi (sdN (ddN it φ p2 v).2.2)]) := nx5
            have fr__4 : ∀ q : Nat, (q < x ∨ x + 140 < q) → h43 q = h q := fun q hq => (nfr5 q (by omega)).trans (fr__2 q hq)
            have hS8 := hS6.s0 ⟨_, nx5⟩ (fun q g => nfr5 q (by omega))
            have hd8 := drZ_b (sdN (ddN it φ p2 v).2.2) (n := 8) (by omega)
            refine g_if_ne k (tgt := 59) (by omega) dX9_drawn_46 (by decide) (fun c46 => ?_) (fun c46 => ?_)
            · skip
              refine g_aload_n k rfl dX9_drawn_59 ?_
              refine g_cVi k 9 (As := []) v_X9_drawTold rfl rfl hx__4 ml_X9_291 (c_X9_drawTold hS8 hx__4 hsm) (by omega) (by omega) rfl (Nat.le_of_ble_eq_true rfl) rfl dX9_drawn_60 (fun r60 h60 p60 => ?_)
              obtain ⟨qz, hS7, nx7, nfr6⟩ := p60
              have nfr7 : ∀ q : Nat, ((q < x ∨ x + 4 < q) ∧ (q < x + 59 ∨ x + 60 < q)) → h60 q = h43 q := fun q hq => nfr6 q hq.1 hq.2
              have hx__5 : h60 x = some (ob 9 [.ref (x + 1), .ref (x + 5), .ref (x + 9), .ref (x + 43), .ref (x + 52), .ref (x + 53), .ref (x + 56), .ref (x + 59), .ref (x + 61), .ref (x + 68), .ref (x + 130), .ref (x + 132), .ref (x + 133), .ref (x + 135), vi ((dtF it (ddN it φ p2 v).2.1 (sdN (ddN it φ p2 v).2.2)).2.2)]) := nx7
              have fr__5 : ∀ q : Nat, (q < x ∨ x + 140 < q) → h60 q = h q := fun q hq => (nfr7 q (by omega)).trans (fr__4 q hq)
              have qzr := qz.r
              refine g_if_eq k (tgt := 69) (by omega) dX9_drawn_63 (by decide) (fun c63 => ?_) (fun c63 => ?_)
              · skip
                refine g_iinc k (lv2 := [(0, .ref x), (1, vi (n1 : Int)), (2, vi p2), (3, vi ((ddN it φ p2 v).1 : Int)), (4, vi ((v : Int) + 1))]) rfl (by decide) rfl rfl dX9_drawn_69 ?_
                refine g_goto k (tgt := 34) dX9_drawn_72 (by decide) ?_
                have er : ddF it (ddN it φ p2 v).2.1 (ddN it φ p2 v).2.2 = dtF it (ddN it φ p2 v).2.1 (sdN (ddN it φ p2 v).2.2) := if_neg (by omega)
                have em : (ddN it φ p2 (v + 1)).1 = (ddN it φ p2 v).1 := ddN_n (by rw [er]; exact qz.f (by omega))
                rw [show (ddN it φ p2 v).1 = (ddN it φ p2 (v + 1)).1 from em.symm]
                rw [← er] at hx__5 hS7
                exact ih34 (v + 1) h60 hx__5 fr__5 (by omega) hS7 (hM6.keep (fun q g1 g2 => (nfr6 q (by omega) (by omega)).trans (nfr5 q (by omega)))) (by omega)
              · skip
                refine g_iinc k (lv2 := [(0, .ref x), (1, vi (n1 : Int)), (2, vi p2), (3, vi (((ddN it φ p2 v).1 : Int) + 1)), (4, vi (v : Int))]) rfl (by decide) rfl rfl dX9_drawn_66 ?_
                refine g_iinc k (lv2 := [(0, .ref x), (1, vi (n1 : Int)), (2, vi p2), (3, vi (((ddN it φ p2 v).1 : Int) + 1)), (4, vi ((v : Int) + 1))]) rfl (by decide) rfl rfl dX9_drawn_69 ?_
                refine g_goto k (tgt := 34) dX9_drawn_72 (by decide) ?_
                have er : ddF it (ddN it φ p2 v).2.1 (ddN it φ p2 v).2.2 = dtF it (ddN it φ p2 v).2.1 (sdN (ddN it φ p2 v).2.2) := if_neg (by omega)
                have em : (ddN it φ p2 (v + 1)).1 = (ddN it φ p2 v).1 + 1 := ddN_y (by rw [er]; exact qz.t (by omega))
                rw [show ((ddN it φ p2 v).1 : Int) + 1 = ((ddN it φ p2 (v + 1)).1 : Int) by rw [em]; rfl]
                rw [← er] at hx__5 hS7
                exact ih34 (v + 1) h60 hx__5 fr__5 (by omega) hS7 (hM6.keep (fun q g1 g2 => (nfr6 q (by omega) (by omega)).trans (nfr5 q (by omega)))) (by omega)
            · skip
              refine g_aload_n k rfl dX9_drawn_49 ?_
              refine g_cVi k 9 (As := []) v_X9_drawForgotten rfl rfl hx__4 ml_X9_287 (c_X9_drawForgotten hS8 hx__4 hsm) (by omega) (by omega) rfl (Nat.le_of_ble_eq_true rfl) rfl dX9_drawn_50 (fun r50 h50 p50 => ?_)
              obtain ⟨qz, hS7, nx7, nfr6⟩ := p50
              have nfr7 : ∀ q : Nat, ((q < x ∨ x + 4 < q) ∧ (q < x + 59 ∨ x + 60 < q)) → h50 q = h43 q := fun q hq => nfr6 q hq.1 hq.2
              have hx__6 : h50 x = some (ob 9 [.ref (x + 1), .ref (x + 5), .ref (x + 9), .ref (x + 43), .ref (x + 52), .ref (x + 53), .ref (x + 56), .ref (x + 59), .ref (x + 61), .ref (x + 68), .ref (x + 130), .ref (x + 132), .ref (x + 133), .ref (x + 135), vi ((dgF (ddN it φ p2 v).2.1 (sdN (ddN it φ p2 v).2.2)).2.2)]) := nx7
              have fr__6 : ∀ q : Nat, (q < x ∨ x + 140 < q) → h50 q = h q := fun q hq => (nfr7 q (by omega)).trans (fr__4 q hq)
              have qzr := qz.r
              refine g_if_eq k (tgt := 69) (by omega) dX9_drawn_53 (by decide) (fun c53 => ?_) (fun c53 => ?_)
              · skip
                refine g_iinc k (lv2 := [(0, .ref x), (1, vi (n1 : Int)), (2, vi p2), (3, vi ((ddN it φ p2 v).1 : Int)), (4, vi ((v : Int) + 1))]) rfl (by decide) rfl rfl dX9_drawn_69 ?_
                refine g_goto k (tgt := 34) dX9_drawn_72 (by decide) ?_
                have er : ddF it (ddN it φ p2 v).2.1 (ddN it φ p2 v).2.2 = dgF (ddN it φ p2 v).2.1 (sdN (ddN it φ p2 v).2.2) := if_pos (by omega)
                have em : (ddN it φ p2 (v + 1)).1 = (ddN it φ p2 v).1 := ddN_n (by rw [er]; exact qz.f (by omega))
                rw [show (ddN it φ p2 v).1 = (ddN it φ p2 (v + 1)).1 from em.symm]
                rw [← er] at hx__6 hS7
                exact ih34 (v + 1) h50 hx__6 fr__6 (by omega) hS7 (hM6.keep (fun q g1 g2 => (nfr6 q (by omega) (by omega)).trans (nfr5 q (by omega)))) (by omega)
              · skip
                refine g_goto k (tgt := 66) dX9_drawn_56 (by decide) ?_
                refine g_iinc k (lv2 := [(0, .ref x), (1, vi (n1 : Int)), (2, vi p2), (3, vi (((ddN it φ p2 v).1 : Int) + 1)), (4, vi (v : Int))]) rfl (by decide) rfl rfl dX9_drawn_66 ?_
                refine g_iinc k (lv2 := [(0, .ref x), (1, vi (n1 : Int)), (2, vi p2), (3, vi (((ddN it φ p2 v).1 : Int) + 1)), (4, vi ((v : Int) + 1))]) rfl (by decide) rfl rfl dX9_drawn_69 ?_
                refine g_goto k (tgt := 34) dX9_drawn_72 (by decide) ?_
                have er : ddF it (ddN it φ p2 v).2.1 (ddN it φ p2 v).2.2 = dgF (ddN it φ p2 v).2.1 (sdN (ddN it φ p2 v).2.2) := if_pos (by omega)
                have em : (ddN it φ p2 (v + 1)).1 = (ddN it φ p2 v).1 + 1 := ddN_y (by rw [er]; exact qz.t (by omega))
                rw [show ((ddN it φ p2 v).1 : Int) + 1 = ((ddN it φ p2 (v + 1)).1 : Int) by rw [em]; rfl]
                rw [← er] at hx__6 hS7
                exact ih34 (v + 1) h50 hx__6 fr__6 (by omega) hS7 (hM6.keep (fun q g1 g2 => (nfr6 q (by omega) (by omega)).trans (nfr5 q (by omega)))) (by omega)
      exact K34 _ 0 h26 hx__1 fr__1 (Nat.zero_le _) hS2 nM2 (Nat.lt_succ_self _)
    · skip
      refine g_iconst k dX9_drawn_11 ?_
      rw [← hQQ]
      refine g_ireti k rfl dX9_drawn_12 ?_
      have e : dwT it φ ps p p2 = (-1, φ, ps) := by unfold dwT; rw [if_neg (by omega)]
      rw [e]
      exact ⟨rfl, hS, fr0⟩

