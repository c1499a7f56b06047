/-! feed, notes, now, refuted, ring, image, restore -/
theorem SFsVsD {G : Gx} {h h' : Hp} {x : Nat} {it : Nat} {φ : Fs} {ps : List (Nat × Fs)} {im : Nat → Option (Nat × Fs)} {V : RV} {n : Nat} {T : Nat → Int} {ft : Nat} {V' : RV} {ft' : Nat} (hS : SF G h x it φ ps im V n T ft) (hn1 : sV G h' x V') (hn2 : sD G h' x ft') (fr : ∀ q : Nat, (q < x + 53 ∨ x + 55 < q) → (q < x + 135 ∨ x + 140 < q) → h' q = h q) : SF G h' x it φ ps im V' n T ft' := ⟨s0.keep (hS.1) (fun q g1 g2 => fr q (by omega) (by omega)), sF.keep (hS.2.1) (fun q g1 g2 => fr q (by omega) (by omega)), sM.keep (hS.2.2.1) (fun q g1 g2 => fr q (by omega) (by omega)), sP.keep (hS.2.2.2.1) (fun q g1 g2 => fr q (by omega) (by omega)), sI.keep (hS.2.2.2.2.1) (fun q g1 g2 => fr q (by omega) (by omega)), hn1, sK.keep (hS.2.2.2.2.2.2.1) (fun q g1 g2 => fr q (by omega) (by omega)), sR.keep (hS.2.2.2.2.2.2.2.1) (fun q g1 g2 => fr q (by omega) (by omega)), sO.keep (hS.2.2.2.2.2.2.2.2.1) (fun q g1 g2 => fr q (by omega) (by omega)), sW.keep (hS.2.2.2.2.2.2.2.2.2.1) (fun q g1 g2 => fr q (by omega) (by omega)), sS.keep (hS.2.2.2.2.2.2.2.2.2.2.1) (fun q g1 g2 => fr q (by omega) (by omega)), sZ.keep (hS.2.2.2.2.2.2.2.2.2.2.2.1) (fun q g1 g2 => fr q (by omega) (by omega)), sT.keep (hS.2.2.2.2.2.2.2.2.2.2.2.2.1) (fun q g1 g2 => fr q (by omega) (by omega)), hn2⟩
theorem SFsFsR {G : Gx} {h h' : Hp} {x : Nat} {it : Nat} {φ : Fs} {ps : List (Nat × Fs)} {im : Nat → Option (Nat × Fs)} {V : RV} {n : Nat} {T : Nat → Int} {ft : Nat} {it' : Nat} {φ' : Fs} (hS : SF G h x it φ ps im V n T ft) (hn1 : sF G h' x it' φ') (hn2 : sR G h' x) (fr : ∀ q : Nat, (q < x + 1 ∨ x + 4 < q) → (q < x + 59 ∨ x + 60 < q) → h' q = h q) : SF G h' x it' φ' ps im V n T ft := ⟨s0.keep (hS.1) (fun q g1 g2 => fr q (by omega) (by omega)), hn1, sM.keep (hS.2.2.1) (fun q g1 g2 => fr q (by omega) (by omega)), sP.keep (hS.2.2.2.1) (fun q g1 g2 => fr q (by omega) (by omega)), sI.keep (hS.2.2.2.2.1) (fun q g1 g2 => fr q (by omega) (by omega)), sV.keep (hS.2.2.2.2.2.1) (fun q g1 g2 => fr q (by omega) (by omega)), sK.keep (hS.2.2.2.2.2.2.1) (fun q g1 g2 => fr q (by omega) (by omega)), hn2, sO.keep (hS.2.2.2.2.2.2.2.2.1) (fun q g1 g2 => fr q (by omega) (by omega)), sW.keep (hS.2.2.2.2.2.2.2.2.2.1) (fun q g1 g2 => fr q (by omega) (by omega)), sS.keep (hS.2.2.2.2.2.2.2.2.2.2.1) (fun q g1 g2 => fr q (by omega) (by omega)), sZ.keep (hS.2.2.2.2.2.2.2.2.2.2.2.1) (fun q g1 g2 => fr q (by omega) (by omega)), sT.keep (hS.2.2.2.2.2.2.2.2.2.2.2.2.1) (fun q g1 g2 => fr q (by omega) (by omega)), sD.keep (hS.2.2.2.2.2.2.2.2.2.2.2.2.2) (fun q g1 g2 => fr q (by omega) (by omega))⟩
theorem SFsSsZ {G : Gx} {h h' : Hp} {x : Nat} {it : Nat} {φ : Fs} {ps : List (Nat × Fs)} {im : Nat → Option (Nat × Fs)} {V : RV} {n : Nat} {T : Nat → Int} {ft : Nat} (hS : SF G h x it φ ps im V n T ft) (hn1 : sS G h' x) (hn2 : sZ G h' x) (fr : ∀ q : Nat, (q < x + 130 ∨ x + 131 < q) → (q < x + 132 ∨ x + 132 < q) → h' q = h q) : SF G h' x it φ ps im V n T ft := ⟨s0.keep (hS.1) (fun q g1 g2 => fr q (by omega) (by omega)), sF.keep (hS.2.1) (fun q g1 g2 => fr q (by omega) (by omega)), sM.keep (hS.2.2.1) (fun q g1 g2 => fr q (by omega) (by omega)), sP.keep (hS.2.2.2.1) (fun q g1 g2 => fr q (by omega) (by omega)), sI.keep (hS.2.2.2.2.1) (fun q g1 g2 => fr q (by omega) (by omega)), sV.keep (hS.2.2.2.2.2.1) (fun q g1 g2 => fr q (by omega) (by omega)), sK.keep (hS.2.2.2.2.2.2.1) (fun q g1 g2 => fr q (by omega) (by omega)), sR.keep (hS.2.2.2.2.2.2.2.1) (fun q g1 g2 => fr q (by omega) (by omega)), sO.keep (hS.2.2.2.2.2.2.2.2.1) (fun q g1 g2 => fr q (by omega) (by omega)), sW.keep (hS.2.2.2.2.2.2.2.2.2.1) (fun q g1 g2 => fr q (by omega) (by omega)), hn1, hn2, sT.keep (hS.2.2.2.2.2.2.2.2.2.2.2.2.1) (fun q g1 g2 => fr q (by omega) (by omega)), sD.keep (hS.2.2.2.2.2.2.2.2.2.2.2.2.2) (fun q g1 g2 => fr q (by omega) (by omega))⟩
def fdT (T : Nat → Int) (n : Nat) (a b c d e : Int) : Nat → Int := ptF (ptF (ptF (ptF (ptF T n a 4) (n + 4) b 4) (n + 4 + 4) c 4) (n + 4 + 4 + 4) d 4) (n + 4 + 4 + 4 + 4) e 4
theorem Byt.put {T : Nat → Int} (h : Byt T) (n : Nat) (x : Int) : ∀ i, Byt (ptF T n x i)
  | 0 => h
  | i + 1 => fun j => by
    unfold ptF fu
    split
    · exact ⟨Int.emod_nonneg _ (by decide), by have := Int.emod_lt_of_pos (x % 4294967296 / 2 ^ (24 - 8 * i)) (b := 256) (by decide); omega⟩
    · exact Byt.put h n x i j
theorem Byt.feed {T : Nat → Int} (h : Byt T) (n : Nat) (a b c d e : Int) : Byt (fdT T n a b c d e) := ((((h.put n a 4).put _ b 4).put _ c 4).put _ d 4).put _ e 4
theorem PA_clear {G : Gx} {h h' : Hp} {a : Nat} {ps : List (Nat × Fs)} (hP : PA G h a ps) (h0 : h' a = some (ob 2 [vi 0, .ref (a + 1)])) (fr : ∀ q : Nat, a < q → q ≤ a + 33 → h' q = h q) : PA G h' a [] := by
  obtain ⟨f, σ, ⟨p1, p2, p3, p4, p5⟩, h8, hps⟩ := hP
  refine ⟨f, σ, ⟨h0, (fr _ (by omega) (by omega)).trans p2, p3, p4, fun s hs => ?_⟩, by decide, fun i hi => absurd hi (Nat.not_lt_zero i)⟩
  obtain ⟨i2, m2, K, F, S, hq⟩ := p5 s hs
  exact ⟨i2, m2, K, F, S, hq.keep (fun q g1 g2 => fr q (by omega) (by omega))⟩
set_option maxHeartbeats 600000 in
set_option maxRecDepth 100000 in
theorem c_X9_feed {G : Gx} {h : Hp} {nx x : Nat} {it : Nat} {φ : Fs} {ps : List (Nat × Fs)} {im : Nat → Option (Nat × Fs)} {V : RV} {n : Nat} {T : Nat → Int} {ft : Nat} (hS : SF G h x it φ ps im V n T ft) {p1 p2 p3 p4 p5 : Int} (hn7 : n ≤ 740) : Con G yX9_feed cX9_feed 6 (some .int) 2 0 0 [.ref x, vi p1, vi p2, vi p3, vi p4, vi p5] h nx (PI fun z h' => z = (if n ≤ 720 then (n : Int) + 20 else -1) ∧ SF G h' x it φ ps im V (if n ≤ 720 then n + 20 else n) (if n ≤ 720 then fdT T n p1 p2 p3 p4 p5 else T) ft ∧ ∀ q : Nat, (q < x ∨ x + 140 < q) → h' q = h q) := by
  obtain ⟨⟨sd, hx⟩, cF, cM, cP, cI, cV, cK, cR, cO, cW, cS, cZ, cT, cD⟩ := id hS
  have cF : FA G h (x + 1) it φ := cF
  have cP : PA G h (x + 9) ps := cP
  have cV : GV G h (x + 53) V := cV
  have cT : TA G h (x + 133) n T := cT
  have hf := cF.ob
  have hp := cP.ob
  have hv := cV.ob
  have ht := cT.1
  have cT0 := cT
  refine Con.of v_X9_feed.2.2.2.2.2.1 (Nat.le_of_ble_eq_true rfl) (lv := [(0, .ref x), (1, vi p1), (2, vi p2), (3, vi p3), (4, vi p4), (5, vi p5)]) rfl (fun X k => ?_)
  generalize hQQ : QM G X nx 0 0 _ = QQ
  have fr0 : ∀ q : Nat, (q < x ∨ x + 140 < q) → h q = h q := fun _ _ => rfl
  refine g_aload_n k rfl dX9_feed_0 ?_
  refine g_get k 9 12 (C := RX9) (T := TX9) (N := 15) fl_X9_79 rfl wi_X9 (by decide) rfl hx rfl dX9_feed_1 ?_
  refine g_get k 7 0 (C := RX7) (T := TX7) (N := 2) fl_X9_96 rfl wi_X7 (by decide) rfl ht rfl dX9_feed_4 ?_
  refine g_bipush k rfl dX9_feed_7 ?_
  refine g_iadd k dX9_feed_9 ?_
  refine g_sipush k rfl dX9_feed_10 ?_
  refine g_icmp_le k (tgt := 18) (by omega) (by omega) dX9_feed_13 (by decide) (fun c13 => ?_) (fun c13 => ?_)
  · skip
    refine g_aload_n k rfl dX9_feed_18 ?_
    refine g_get k 9 12 (C := RX9) (T := TX9) (N := 15) fl_X9_79 rfl wi_X9 (by decide) rfl hx rfl dX9_feed_19 ?_
    refine g_iload_n k rfl dX9_feed_22 ?_
    refine g_cVv k 7 (As := [vi p1]) v_X7_put rfl rfl ht ml_X9_99 (c_X7_put (x := p1) cT0 (by omega)) (by omega) (by omega) rfl (Nat.le_of_ble_eq_true rfl) rfl dX9_feed_23 (fun h23 p23 => ?_)
    obtain ⟨nt1, nfr1⟩ := p23
    have hx_ : h23 x = some (ob 9 [.ref (x + 1), .ref (x + 5), .ref (x + 9), .ref (x + 43), .ref (x + 52), .ref (x + 53), .ref (x + 56), .ref (x + 59), .ref (x + 61), .ref (x + 68), .ref (x + 130), .ref (x + 132), .ref (x + 133), .ref (x + 135), vi sd]) := (nfr1 _ (by omega)).trans hx
    have ht_ : h23 (x + 133) = some (ob 7 [vi ((n + 4 : Nat) : Int), .ref (x + 133 + 1)]) := nt1.1
    have fr_ : ∀ q : Nat, (q < x ∨ x + 140 < q) → h23 q = h q := fun q hq => (nfr1 q (by omega)).trans (fr0 q hq)
    have hS1 := hS.sT nt1 (fun q g => nfr1 q (by omega))
    have cT1 := nt1
    refine g_aload_n k rfl dX9_feed_26 ?_
    refine g_get k 9 12 (C := RX9) (T := TX9) (N := 15) fl_X9_79 rfl wi_X9 (by decide) rfl hx_ rfl dX9_feed_27 ?_
    refine g_iload_n k rfl dX9_feed_30 ?_
    refine g_cVv k 7 (As := [vi p2]) v_X7_put rfl rfl ht_ ml_X9_99 (c_X7_put (x := p2) cT1 (by omega)) (by omega) (by omega) rfl (Nat.le_of_ble_eq_true rfl) rfl dX9_feed_31 (fun h31 p31 => ?_)
    obtain ⟨nt2, nfr2⟩ := p31
    have hx__1 : h31 x = some (ob 9 [.ref (x + 1), .ref (x + 5), .ref (x + 9), .ref (x + 43), .ref (x + 52), .ref (x + 53), .ref (x + 56), .ref (x + 59), .ref (x + 61), .ref (x + 68), .ref (x + 130), .ref (x + 132), .ref (x + 133), .ref (x + 135), vi sd]) := (nfr2 _ (by omega)).trans hx_
    have ht__1 : h31 (x + 133) = some (ob 7 [vi ((n + 4 + 4 : Nat) : Int), .ref (x + 133 + 1)]) := nt2.1
    have fr__1 : ∀ q : Nat, (q < x ∨ x + 140 < q) → h31 q = h q := fun q hq => (nfr2 q (by omega)).trans (fr_ q hq)
    have hS2 := hS1.sT nt2 (fun q g => nfr2 q (by omega))
    have cT2 := nt2
    refine g_aload_n k rfl dX9_feed_34 ?_
    refine g_get k 9 12 (C := RX9) (T := TX9) (N := 15) fl_X9_79 rfl wi_X9 (by decide) rfl hx__1 rfl dX9_feed_35 ?_
    refine g_iload_n k rfl dX9_feed_38 ?_
    refine g_cVv k 7 (As := [vi p3]) v_X7_put rfl rfl ht__1 ml_X9_99 (c_X7_put (x := p3) cT2 (by omega)) (by omega) (by omega) rfl (Nat.le_of_ble_eq_true rfl) rfl dX9_feed_39 (fun h39 p39 => ?_)
    obtain ⟨nt3, nfr3⟩ := p39
    have hx__2 : h39 x = some (ob 9 [.ref (x + 1), .ref (x + 5), .ref (x + 9), .ref (x + 43), .ref (x + 52), .ref (x + 53), .ref (x + 56), .ref (x + 59), .ref (x + 61), .ref (x + 68), .ref (x + 130), .ref (x + 132), .ref (x + 133), .ref (x + 135), vi sd]) := (nfr3 _ (by omega)).trans hx__1
    have ht__2 : h39 (x + 133) = some (ob 7 [vi ((n + 4 + 4 + 4 : Nat) : Int), .ref (x + 133 + 1)]) := nt3.1
    have fr__2 : ∀ q : Nat, (q < x ∨ x + 140 < q) → h39 q = h q := fun q hq => (nfr3 q (by omega)).trans (fr__1 q hq)
    have hS3 := hS2.sT nt3 (fun q g => nfr3 q (by omega))
    have cT3 := nt3
    refine g_aload_n k rfl dX9_feed_42 ?_
    refine g_get k 9 12 (C := RX9) (T := TX9) (N := 15) fl_X9_79 rfl wi_X9 (by decide) rfl hx__2 rfl dX9_feed_43 ?_
    refine g_iload k rfl dX9_feed_46 ?_
    refine g_cVv k 7 (As := [vi p4]) v_X7_put rfl rfl ht__2 ml_X9_99 (c_X7_put (x := p4) cT3 (by omega)) (by omega) (by omega) rfl (Nat.le_of_ble_eq_true rfl) rfl dX9_feed_48 (fun h48 p48 => ?_)
    obtain ⟨nt4, nfr4⟩ := p48
    have hx__3 : h48 x = some (ob 9 [.ref (x + 1), .ref (x + 5), .ref (x + 9), .ref (x + 43), .ref (x + 52), .ref (x + 53), .ref (x + 56), .ref (x + 59), .ref (x + 61), .ref (x + 68), .ref (x + 130), .ref (x + 132), .ref (x + 133), .ref (x + 135), vi sd]) := (nfr4 _ (by omega)).trans hx__2
    have ht__3 : h48 (x + 133) = some (ob 7 [vi ((n + 4 + 4 + 4 + 4 : Nat) : Int), .ref (x + 133 + 1)]) := nt4.1
    have fr__3 : ∀ q : Nat, (q < x ∨ x + 140 < q) → h48 q = h q := fun q hq => (nfr4 q (by omega)).trans (fr__2 q hq)
    have hS4 := hS3.sT nt4 (fun q g => nfr4 q (by omega))
    have cT4 := nt4
    refine g_aload_n k rfl dX9_feed_51 ?_
    refine g_get k 9 12 (C := RX9) (T := TX9) (N := 15) fl_X9_79 rfl wi_X9 (by decide) rfl hx__3 rfl dX9_feed_52 ?_
    refine g_iload k rfl dX9_feed_55 ?_
    refine g_cVv k 7 (As := [vi p5]) v_X7_put rfl rfl ht__3 ml_X9_99 (c_X7_put (x := p5) cT4 (by omega)) (by omega) (by omega) rfl (Nat.le_of_ble_eq_true rfl) rfl dX9_feed_57 (fun h57 p57 => ?_)
    obtain ⟨nt5, nfr5⟩ := p57
    have hx__4 : h57 x = some (ob 9 [.ref (x + 1), .ref (x + 5), .ref (x + 9), .ref (x + 43), .ref (x + 52), .ref (x + 53), .ref (x + 56), .ref (x + 59), .ref (x + 61), .ref (x + 68), .ref (x + 130), .ref (x + 132), .ref (x + 133), .ref (x + 135), vi sd]) := (nfr5 _ (by omega)).trans hx__3
    have ht__4 : h57 (x + 133) = some (ob 7 [vi ((n + 4 + 4 + 4 + 4 + 4 : Nat) : Int), .ref (x + 133 + 1)]) := nt5.1
    have fr__4 : ∀ q : Nat, (q < x ∨ x + 140 < q) → h57 q = h q := fun q hq => (nfr5 q (by omega)).trans (fr__3 q hq)
    have hS5 := hS4.sT nt5 (fun q g => nfr5 q (by omega))
    have cT5 := nt5
    refine g_aload_n k rfl dX9_feed_60 ?_
    refine g_get k 9 12 (C := RX9) (T := TX9) (N := 15) fl_X9_79 rfl wi_X9 (by decide) rfl hx__4 rfl dX9_feed_61 ?_
    refine g_get k 7 0 (C := RX7) (T := TX7) (N := 2) fl_X9_96 rfl wi_X7 (by decide) rfl ht__4 rfl dX9_feed_64 ?_
    rw [← hQQ]
    refine g_ireti k rfl dX9_feed_67 ?_
    rw [if_pos (by omega), if_pos (by omega), if_pos (by omega)]
    exact ⟨by omega, hS5, fr__4⟩
  · skip
    refine g_iconst k dX9_feed_16 ?_
    rw [← hQQ]
    refine g_ireti k rfl dX9_feed_17 ?_
    rw [if_neg (by omega), if_neg (by omega), if_neg (by omega)]
    exact ⟨rfl, hS, fr0⟩

set_option maxHeartbeats 600000 in
set_option maxRecDepth 100000 in
theorem c_X9_notes {G : Gx} {h : Hp} {nx x : Nat} {it : Nat} {φ : Fs} {ps : List (Nat × Fs)} {im : Nat → Option (Nat × Fs)} {V : RV} {n : Nat} {T : Nat → Int} {ft : Nat} (hS : SF G h x it φ ps im V n T ft) (hn7 : n ≤ 740) (hBy : Byt T) : Con G yX9_notes cX9_notes 2 (some .int) 8 0 0 [.ref x] h nx (PI fun z h' => ∃ (wd : Int) (NM : Nat → Int) (fp : Nat), z = rdZ (rdB T n wd NM fp V) ∧ Sm (rdB T n wd NM fp V).2.2.1 (rdB T n wd NM fp V).2.2.2.1 ∧ (rdB T n wd NM fp V).2.2.2.2.2.1 ≤ 4 ∧ SF G h' x (if (rdB T n wd NM fp V).2.2.2.2.2.1 = 0 then (rdB T n wd NM fp V).2.2.1 else it) (if (rdB T n wd NM fp V).2.2.2.2.2.1 = 0 then (rdB T n wd NM fp V).2.2.2.1 else φ) (if (rdB T n wd NM fp V).2.2.2.2.2.1 = 0 then [] else ps) im (rdB T n wd NM fp V).2.2.2.2.2.2.2 0 T (rdB T n wd NM fp V).2.2.2.2.2.1 ∧ ∀ q : Nat, (q < x ∨ x + 140 < q) → h' q = h q) := by
  obtain ⟨⟨sd, hx⟩, cF, cM, cP, cI, cV, cK, cR, cO, cW, cS, cZ, cT, cD⟩ := id hS
  have cF : FA G h (x + 1) it φ := cF
  have cP : PA G h (x + 9) ps := cP
  have cV : GV G h (x + 53) V := cV
  have cT : TA G h (x + 133) n T := cT
  have hf := cF.ob
  have hp := cP.ob
  have hv := cV.ob
  have ht := cT.1
  obtain ⟨⟨fp, lm, pl, nt, tk, wd, NM, hRD, hfp⟩, itd, nd, Kd, Fd, Sd, hDr⟩ := cD
  have hr := hRD.1
  refine Con.of v_X9_notes.2.2.2.2.2.1 (Nat.le_of_ble_eq_true rfl) (lv := [(0, .ref x)]) rfl (fun X k => ?_)
  generalize hQQ : QM G X nx 0 0 _ = QQ
  have fr0 : ∀ q : Nat, (q < x ∨ x + 140 < q) → h q = h q := fun _ _ => rfl
  refine g_aload_n k rfl dX9_notes_0 ?_
  refine g_get k 9 13 (C := RX9) (T := TX9) (N := 15) fl_X9_88 rfl wi_X9 (by decide) rfl hx rfl dX9_notes_1 ?_
  refine g_cVi k 4 (As := []) v_X4_read rfl rfl hr ml_X9_103 (c_X4_read hRD hDr cV cT hn7 hfp hBy (by unfold Lay; omega)) (by omega) (by omega) rfl (Nat.le_of_ble_eq_true rfl) rfl dX9_notes_4 (fun r4 h4 p4 => ?_)
  obtain ⟨p4e, nR, nfr⟩ := p4
  have nfr9 : ∀ q : Nat, ((q < x + 135 ∨ x + 135 + 5 < q) ∧ (q < x + 53 ∨ x + 53 + 2 < q)) → h4 q = h q := fun q hq => nfr q hq.1 hq.2
  subst p4e
  have hx_ : h4 x = some (ob 9 [.ref (x + 1), .ref (x + 5), .ref (x + 9), .ref (x + 43), .ref (x + 52), .ref (x + 53), .ref (x + 56), .ref (x + 59), .ref (x + 61), .ref (x + 68), .ref (x + 130), .ref (x + 132), .ref (x + 133), .ref (x + 135), vi sd]) := (nfr9 _ (by omega)).trans hx
  have hf_ : h4 (x + 1) = some (ob 0 [vi (it : Int), vi (φ.length : Int), .ref (x + 1 + 1), .ref (x + 1 + 2), .ref (x + 1 + 3)]) := (nfr9 _ (by omega)).trans hf
  have hp_ : h4 (x + 9) = some (ob 2 [vi (ps.length : Int), .ref (x + 9 + 1)]) := (nfr9 _ (by omega)).trans hp
  have ht_ : h4 (x + 133) = some (ob 7 [vi (n : Int), .ref (x + 133 + 1)]) := (nfr9 _ (by omega)).trans ht
  have hr_ : h4 (x + 135) = some (ob 4 [vi ((rdB T n wd NM fp V).2.2.2.2.2.1 : Int), .ref (x + 135 + 1), vi ((rdB T n wd NM fp V).2.2.2.2.2.2.1 : Int), vi ((if 700 < n then 700 else n : Nat) : Int), vi ((rdB T n wd NM fp V).2.1.2.1 : Int), vi ((rdB T n wd NM fp V).2.1.2.2.1 : Int), vi ((rdB T n wd NM fp V).2.1.1 : Int), vl ((rdB T n wd NM fp V).2.1.2.2.2), .ref (x + 135 + 5), .ref (x + 133), .ref (x + 53)]) := nR.1.1
  have fr_ : ∀ q : Nat, (q < x ∨ x + 140 < q) → h4 q = h q := fun q hq => (nfr9 q (by omega)).trans (fr0 q hq)
  have hft4 := nR.2.2.2.2.2.2.1
  have hl2 := nR.2.2.1.2.1
  have hS1 := SFsVsD hS nR.2.2.2.1 ⟨⟨_, _, _, _, _, _, _, nR.1, nR.2.2.2.2.2.2.2⟩, by obtain ⟨K2, F2, S2, hq⟩ := nR.2.1.fc; exact ⟨_, _, K2, F2, S2, hq⟩⟩ (fun q g1 g2 => nfr q (by omega) (by omega))
  refine g_istore_n k (lv2 := [(0, .ref x), (1, vi (rdZ (rdB T n wd NM fp V)))]) (by decide) rfl rfl dX9_notes_7 ?_
  refine g_aload_n k rfl dX9_notes_8 ?_
  refine g_get k 9 12 (C := RX9) (T := TX9) (N := 15) fl_X9_79 rfl wi_X9 (by decide) rfl hx_ rfl dX9_notes_9 ?_
  refine g_iconst k dX9_notes_12 ?_
  refine g_put k 7 0 (C := RX7) (T := TX7) (N := 2) fl_X9_96 rfl wi_X7 tyX7 tyX7_ok nmX7 (by decide) rfl rfl rfl rfl ht_ (Nat.le_of_ble_eq_true rfl) (fs2 := [vi 0, .ref (x + 133 + 1)]) rfl rfl dX9_notes_13 (fun h13 eh13 => ?_)
  have hx__1 : h13 x = some (ob 9 [.ref (x + 1), .ref (x + 5), .ref (x + 9), .ref (x + 43), .ref (x + 52), .ref (x + 53), .ref (x + 56), .ref (x + 59), .ref (x + 61), .ref (x + 68), .ref (x + 130), .ref (x + 132), .ref (x + 133), .ref (x + 135), vi sd]) := (congrFun eh13 _).trans ((hup_n (by omega)).trans hx_)
  have hf__1 : h13 (x + 1) = some (ob 0 [vi (it : Int), vi (φ.length : Int), .ref (x + 1 + 1), .ref (x + 1 + 2), .ref (x + 1 + 3)]) := (congrFun eh13 _).trans ((hup_n (by omega)).trans hf_)
  have hp__1 : h13 (x + 9) = some (ob 2 [vi (ps.length : Int), .ref (x + 9 + 1)]) := (congrFun eh13 _).trans ((hup_n (by omega)).trans hp_)
  have ht__1 : h13 (x + 133) = some (ob 7 [vi 0, .ref (x + 133 + 1)]) := (congrFun eh13 _).trans hup_s
  have hr__1 : h13 (x + 135) = some (ob 4 [vi ((rdB T n wd NM fp V).2.2.2.2.2.1 : Int), .ref (x + 135 + 1), vi ((rdB T n wd NM fp V).2.2.2.2.2.2.1 : Int), vi ((if 700 < n then 700 else n : Nat) : Int), vi ((rdB T n wd NM fp V).2.1.2.1 : Int), vi ((rdB T n wd NM fp V).2.1.2.2.1 : Int), vi ((rdB T n wd NM fp V).2.1.1 : Int), vl ((rdB T n wd NM fp V).2.1.2.2.2), .ref (x + 135 + 5), .ref (x + 133), .ref (x + 53)]) := (congrFun eh13 _).trans ((hup_n (by omega)).trans hr_)
  have fr__1 : ∀ q : Nat, (q < x ∨ x + 140 < q) → h13 q = h q := fun q hq => (congrFun eh13 q).trans ((hup_n (by omega)).trans (fr_ q hq))
  have hS2 := hS1.sT (h' := h13) (n' := 0) (T' := T) ⟨ht__1, (congrFun eh13 _).trans ((hup_n (by omega)).trans hS1.2.2.2.2.2.2.2.2.2.2.2.2.1.2)⟩ (fun q g => (congrFun eh13 q).trans (hup_n (by omega)))
  obtain ⟨K2, F2, S2, hFC2⟩ := FA.fc hS2.2.1
  have hD2 : FA G h13 (x + 135 + 1) (rdB T n wd NM fp V).2.2.1 (rdB T n wd NM fp V).2.2.2.1 := nR.2.1.keep (fun q g1 g2 => (congrFun eh13 q).trans (hup_n (by omega)))
  refine g_aload_n k rfl dX9_notes_16 ?_
  refine g_get k 9 13 (C := RX9) (T := TX9) (N := 15) fl_X9_88 rfl wi_X9 (by decide) rfl hx__1 rfl dX9_notes_17 ?_
  refine g_get k 4 0 (C := RX4) (T := TX4) (N := 11) fl_X9_107 rfl wi_X4 (by decide) rfl hr__1 rfl dX9_notes_20 ?_
  refine g_if_ne k (tgt := 48) (by omega) dX9_notes_23 (by decide) (fun c23 => ?_) (fun c23 => ?_)
  · skip
    refine g_iload_n k rfl dX9_notes_48 ?_
    rw [← hQQ]
    refine g_ireti k rfl dX9_notes_49 ?_
    refine ⟨wd, NM, fp, rfl, nR.2.2.1, hft4, ?_, fr__1⟩
    rw [if_neg (by omega), if_neg (by omega), if_neg (by omega)]
    exact hS2
  · skip
    refine g_aload_n k rfl dX9_notes_26 ?_
    refine g_get k 9 0 (C := RX9) (T := TX9) (N := 15) fl_X9_12 rfl wi_X9 (by decide) rfl hx__1 rfl dX9_notes_27 ?_
    refine g_aload_n k rfl dX9_notes_30 ?_
    refine g_get k 9 13 (C := RX9) (T := TX9) (N := 15) fl_X9_88 rfl wi_X9 (by decide) rfl hx__1 rfl dX9_notes_31 ?_
    refine g_get k 4 1 (C := RX4) (T := TX4) (N := 11) fl_X9_110 rfl wi_X4 (by decide) rfl hr__1 rfl dX9_notes_34 ?_
    refine g_cVv k 0 (As := [.ref (x + 135 + 1)]) v_X0_copyFrom rfl rfl hf__1 ml_X9_113 (c_X0_copyFrom hFC2 hD2 hl2 (by omega)) (by omega) (by omega) rfl (Nat.le_of_ble_eq_true rfl) rfl dX9_notes_37 (fun h37 p37 => ?_)
    obtain ⟨nF, nfr3⟩ := p37
    have hx__2 : h37 x = some (ob 9 [.ref (x + 1), .ref (x + 5), .ref (x + 9), .ref (x + 43), .ref (x + 52), .ref (x + 53), .ref (x + 56), .ref (x + 59), .ref (x + 61), .ref (x + 68), .ref (x + 130), .ref (x + 132), .ref (x + 133), .ref (x + 135), vi sd]) := (nfr3 _ (by omega)).trans hx__1
    have hp__2 : h37 (x + 9) = some (ob 2 [vi (ps.length : Int), .ref (x + 9 + 1)]) := (nfr3 _ (by omega)).trans hp__1
    have ht__2 : h37 (x + 133) = some (ob 7 [vi 0, .ref (x + 133 + 1)]) := (nfr3 _ (by omega)).trans ht__1
    have hr__2 : h37 (x + 135) = some (ob 4 [vi ((rdB T n wd NM fp V).2.2.2.2.2.1 : Int), .ref (x + 135 + 1), vi ((rdB T n wd NM fp V).2.2.2.2.2.2.1 : Int), vi ((if 700 < n then 700 else n : Nat) : Int), vi ((rdB T n wd NM fp V).2.1.2.1 : Int), vi ((rdB T n wd NM fp V).2.1.2.2.1 : Int), vi ((rdB T n wd NM fp V).2.1.1 : Int), vl ((rdB T n wd NM fp V).2.1.2.2.2), .ref (x + 135 + 5), .ref (x + 133), .ref (x + 53)]) := (nfr3 _ (by omega)).trans hr__1
    have fr__2 : ∀ q : Nat, (q < x ∨ x + 140 < q) → h37 q = h q := fun q hq => (nfr3 q (by omega)).trans (fr__1 q hq)
    have hS3 := hS2.sF nF (fun q g => nfr3 q (by omega))
    refine g_aload_n k rfl dX9_notes_40 ?_
    refine g_get k 9 2 (C := RX9) (T := TX9) (N := 15) fl_X9_22 rfl wi_X9 (by decide) rfl hx__2 rfl dX9_notes_41 ?_
    refine g_iconst k dX9_notes_44 ?_
    refine g_put k 2 0 (C := RX2) (T := TX2) (N := 2) fl_X9_117 rfl wi_X2 tyX2 tyX2_ok nmX2 (by decide) rfl rfl rfl rfl hp__2 (Nat.le_of_ble_eq_true rfl) (fs2 := [vi 0, .ref (x + 9 + 1)]) rfl rfl dX9_notes_45 (fun h45 eh45 => ?_)
    have hx__3 : h45 x = some (ob 9 [.ref (x + 1), .ref (x + 5), .ref (x + 9), .ref (x + 43), .ref (x + 52), .ref (x + 53), .ref (x + 56), .ref (x + 59), .ref (x + 61), .ref (x + 68), .ref (x + 130), .ref (x + 132), .ref (x + 133), .ref (x + 135), vi sd]) := (congrFun eh45 _).trans ((hup_n (by omega)).trans hx__2)
    have hp__3 : h45 (x + 9) = some (ob 2 [vi 0, .ref (x + 9 + 1)]) := (congrFun eh45 _).trans hup_s
    have ht__3 : h45 (x + 133) = some (ob 7 [vi 0, .ref (x + 133 + 1)]) := (congrFun eh45 _).trans ((hup_n (by omega)).trans ht__2)
    have hr__3 : h45 (x + 135) = some (ob 4 [vi ((rdB T n wd NM fp V).2.2.2.2.2.1 : Int), .ref (x + 135 + 1), vi ((rdB T n wd NM fp V).2.2.2.2.2.2.1 : Int), vi ((if 700 < n then 700 else n : Nat) : Int), vi ((rdB T n wd NM fp V).2.1.2.1 : Int), vi ((rdB T n wd NM fp V).2.1.2.2.1 : Int), vi ((rdB T n wd NM fp V).2.1.1 : Int), vl ((rdB T n wd NM fp V).2.1.2.2.2), .ref (x + 135 + 5), .ref (x + 133), .ref (x + 53)]) := (congrFun eh45 _).trans ((hup_n (by omega)).trans hr__2)
    have fr__3 : ∀ q : Nat, (q < x ∨ x + 140 < q) → h45 q = h q := fun q hq => (congrFun eh45 q).trans ((hup_n (by omega)).trans (fr__2 q hq))
    have hS4 := hS3.sP (h' := h45) (PA_clear hS3.2.2.2.1 hp__3 (fun q g1 g2 => (congrFun eh45 q).trans (hup_n (by omega)))) (fun q g => (congrFun eh45 q).trans (hup_n (by omega)))
    refine g_iload_n k rfl dX9_notes_48 ?_
    rw [← hQQ]
    refine g_ireti k rfl dX9_notes_49 ?_
    refine ⟨wd, NM, fp, rfl, nR.2.2.1, hft4, ?_, fr__3⟩
    rw [if_pos (by omega), if_pos (by omega), if_pos (by omega)]
    exact hS4

def nwF (it : Nat) (φ : Fs) (L np n : Nat) (p : Int) : Int := if p = 0 then it else if p = 1 then φ.length else if p = 2 then (bbF φ φ.length : Nat) else if p = 3 then L else if p = 4 then np else if p = 5 then n else -1
set_option maxHeartbeats 600000 in
set_option maxRecDepth 100000 in
theorem c_X9_now {G : Gx} {h : Hp} {nx x : Nat} {it : Nat} {φ : Fs} {ps : List (Nat × Fs)} {im : Nat → Option (Nat × Fs)} {V : RV} {n : Nat} {T : Nat → Int} {ft : Nat} (hS : SF G h x it φ ps im V n T ft) (hSm : Sm it φ) {L : Nat} (hL : isL φ it L) {p : Int} (rp : -2147483648 ≤ p ∧ p ≤ 2147483647) : Con G yX9_now cX9_now 2 (some .int) 5 0 0 [.ref x, vi p] h nx (PI fun z h' => z = nwF it φ L ps.length n p ∧ SF G h' x it φ ps im V n T ft ∧ ∀ q : Nat, (q < x ∨ x + 140 < q) → h' q = h q) := by
  obtain ⟨⟨sd, hx⟩, cF, cM, cP, cI, cV, cK, cR, cO, cW, cS, cZ, cT, cD⟩ := id hS
  have cF : FA G h (x + 1) it φ := cF
  have cP : PA G h (x + 9) ps := cP
  have cV : GV G h (x + 53) V := cV
  have cT : TA G h (x + 133) n T := cT
  have hf := cF.ob
  have hp := cP.ob
  have hv := cV.ob
  have ht := cT.1
  obtain ⟨⟨L0, g0, i0, RO, PR, ST, QU, hOA⟩, itO, MO, hRO⟩ := cO
  have hOA : OA G h (x + 61) L0 g0 i0 RO PR ST QU := hOA
  have ho := hOA.1
  refine Con.of v_X9_now.2.2.2.2.2.1 (Nat.le_of_ble_eq_true rfl) (lv := [(0, .ref x), (1, vi p)]) rfl (fun X k => ?_)
  generalize hQQ : QM G X nx 0 0 _ = QQ
  have fr0 : ∀ q : Nat, (q < x ∨ x + 140 < q) → h q = h q := fun _ _ => rfl
  refine g_iload_n k rfl dX9_now_0 ?_
  rcases (show p < 0 ∨ 5 < p ∨ p = 0 ∨ p = 1 ∨ p = 2 ∨ p = 3 ∨ p = 4 ∨ p = 5 by omega) with c1 | c1 | c1 | c1 | c1 | c1 | c1 | c1
  · skip
    refine g_tabOut k (tgt := 99) (by omega) (by omega) dX9_now_1 (by decide) ?_
    refine g_iconst k dX9_now_99 ?_
    rw [← hQQ]
    refine g_ireti k rfl dX9_now_100 ?_
    exact ⟨by unfold nwF; rw [if_neg (by omega)]; rw [if_neg (by omega)]; rw [if_neg (by omega)]; rw [if_neg (by omega)]; rw [if_neg (by omega)]; rw [if_neg (by omega)], hS, fr0⟩
  · skip
    refine g_tabOut k (tgt := 99) (by omega) (by omega) dX9_now_1 (by decide) ?_
    refine g_iconst k dX9_now_99 ?_
    rw [← hQQ]
    refine g_ireti k rfl dX9_now_100 ?_
    exact ⟨by unfold nwF; rw [if_neg (by omega)]; rw [if_neg (by omega)]; rw [if_neg (by omega)]; rw [if_neg (by omega)]; rw [if_neg (by omega)]; rw [if_neg (by omega)], hS, fr0⟩
  · skip
    refine g_tabIn k (off := 39) (tgt := 40) (by omega) (by omega) (by omega) (by rw [c1]; rfl) dX9_now_1 (by decide) ?_
    refine g_aload_n k rfl dX9_now_40 ?_
    refine g_get k 9 0 (C := RX9) (T := TX9) (N := 15) fl_X9_12 rfl wi_X9 (by decide) rfl hx rfl dX9_now_41 ?_
    refine g_get k 0 0 (C := RX0) (T := TX0) (N := 5) fl_X9_120 rfl wi_X0 (by decide) rfl hf rfl dX9_now_44 ?_
    rw [← hQQ]
    refine g_ireti k rfl dX9_now_47 ?_
    exact ⟨by unfold nwF;  rw [if_pos (by omega)], hS, fr0⟩
  · skip
    refine g_tabIn k (off := 47) (tgt := 48) (by omega) (by omega) (by omega) (by rw [c1]; rfl) dX9_now_1 (by decide) ?_
    refine g_aload_n k rfl dX9_now_48 ?_
    refine g_get k 9 0 (C := RX9) (T := TX9) (N := 15) fl_X9_12 rfl wi_X9 (by decide) rfl hx rfl dX9_now_49 ?_
    refine g_get k 0 1 (C := RX0) (T := TX0) (N := 5) fl_X9_123 rfl wi_X0 (by decide) rfl hf rfl dX9_now_52 ?_
    rw [← hQQ]
    refine g_ireti k rfl dX9_now_55 ?_
    exact ⟨by unfold nwF; rw [if_neg (by omega)]; rw [if_pos (by omega)], hS, fr0⟩
  · skip
    refine g_tabIn k (off := 55) (tgt := 56) (by omega) (by omega) (by omega) (by rw [c1]; rfl) dX9_now_1 (by decide) ?_
    refine g_aload_n k rfl dX9_now_56 ?_
    refine g_get k 9 0 (C := RX9) (T := TX9) (N := 15) fl_X9_12 rfl wi_X9 (by decide) rfl hx rfl dX9_now_57 ?_
    refine g_cVi k 0 (As := []) v_X0_beforeBits rfl rfl hf ml_X9_124 (c_X0_beforeBits cF hSm) (by omega) (by omega) rfl (Nat.le_of_ble_eq_true rfl) rfl dX9_now_60 (fun r60 h60 p60 => ?_)
    obtain ⟨eh60, p60⟩ := p60
    have eh60 := eh60.symm; subst eh60
    subst p60
    rw [← hQQ]
    refine g_ireti k rfl dX9_now_63 ?_
    exact ⟨by unfold nwF; rw [if_neg (by omega)]; rw [if_neg (by omega)]; rw [if_pos (by omega)], hS, fr0⟩
  · skip
    refine g_tabIn k (off := 63) (tgt := 64) (by omega) (by omega) (by omega) (by rw [c1]; rfl) dX9_now_1 (by decide) ?_
    refine g_aload_n k rfl dX9_now_64 ?_
    refine g_get k 9 8 (C := RX9) (T := TX9) (N := 15) fl_X9_54 rfl wi_X9 (by decide) rfl hx rfl dX9_now_65 ?_
    refine g_aload_n k rfl dX9_now_68 ?_
    refine g_get k 9 0 (C := RX9) (T := TX9) (N := 15) fl_X9_12 rfl wi_X9 (by decide) rfl hx rfl dX9_now_69 ?_
    refine g_cVv k 1 (As := [.ref (x + 1)]) v_X1_lay rfl rfl ho ml_X9_127 (c_X1_lay hOA hRO cF hSm (by omega) hL) (by omega) (by omega) rfl (Nat.le_of_ble_eq_true rfl) rfl dX9_now_72 (fun h72 p72 => ?_)
    obtain ⟨⟨ST2, nO, hST⟩, nRO, nfr⟩ := p72
    have hx_ : h72 x = some (ob 9 [.ref (x + 1), .ref (x + 5), .ref (x + 9), .ref (x + 43), .ref (x + 52), .ref (x + 53), .ref (x + 56), .ref (x + 59), .ref (x + 61), .ref (x + 68), .ref (x + 130), .ref (x + 132), .ref (x + 133), .ref (x + 135), vi sd]) := (nfr _ (by omega)).trans hx
    have hf_ : h72 (x + 1) = some (ob 0 [vi (it : Int), vi (φ.length : Int), .ref (x + 1 + 1), .ref (x + 1 + 2), .ref (x + 1 + 3)]) := (nfr _ (by omega)).trans hf
    have hp_ : h72 (x + 9) = some (ob 2 [vi (ps.length : Int), .ref (x + 9 + 1)]) := (nfr _ (by omega)).trans hp
    have ht_ : h72 (x + 133) = some (ob 7 [vi (n : Int), .ref (x + 133 + 1)]) := (nfr _ (by omega)).trans ht
    have ho_ : h72 (x + 61) = some (ob 1 [vi (L : Int), vi g0, .ref (x + 61 + 1), .ref (x + 61 + 2), vi (it : Int), .ref (x + 61 + 3), .ref (x + 61 + 4), .ref (x + 61 + 5)]) := nO.1
    have fr_ : ∀ q : Nat, (q < x ∨ x + 140 < q) → h72 q = h q := fun q hq => (nfr q (by omega)).trans (fr0 q hq)
    have hS1 := hS.sO (h' := h72) ⟨⟨_, _, _, _, _, _, _, nO⟩, _, _, nRO⟩ (fun q g => nfr q (by omega))
    refine g_aload_n k rfl dX9_now_75 ?_
    refine g_get k 9 8 (C := RX9) (T := TX9) (N := 15) fl_X9_54 rfl wi_X9 (by decide) rfl hx_ rfl dX9_now_76 ?_
    refine g_get k 1 0 (C := RX1) (T := TX1) (N := 8) fl_X9_130 rfl wi_X1 (by decide) rfl ho_ rfl dX9_now_79 ?_
    rw [← hQQ]
    refine g_ireti k rfl dX9_now_82 ?_
    exact ⟨by unfold nwF; rw [if_neg (by omega)]; rw [if_neg (by omega)]; rw [if_neg (by omega)]; rw [if_pos (by omega)], hS1, fr_⟩
  · skip
    refine g_tabIn k (off := 82) (tgt := 83) (by omega) (by omega) (by omega) (by rw [c1]; rfl) dX9_now_1 (by decide) ?_
    refine g_aload_n k rfl dX9_now_83 ?_
    refine g_get k 9 2 (C := RX9) (T := TX9) (N := 15) fl_X9_22 rfl wi_X9 (by decide) rfl hx rfl dX9_now_84 ?_
    refine g_get k 2 0 (C := RX2) (T := TX2) (N := 2) fl_X9_117 rfl wi_X2 (by decide) rfl hp rfl dX9_now_87 ?_
    rw [← hQQ]
    refine g_ireti k rfl dX9_now_90 ?_
    exact ⟨by unfold nwF; rw [if_neg (by omega)]; rw [if_neg (by omega)]; rw [if_neg (by omega)]; rw [if_neg (by omega)]; rw [if_pos (by omega)], hS, fr0⟩
  · skip
    refine g_tabIn k (off := 90) (tgt := 91) (by omega) (by omega) (by omega) (by rw [c1]; rfl) dX9_now_1 (by decide) ?_
    refine g_aload_n k rfl dX9_now_91 ?_
    refine g_get k 9 12 (C := RX9) (T := TX9) (N := 15) fl_X9_79 rfl wi_X9 (by decide) rfl hx rfl dX9_now_92 ?_
    refine g_get k 7 0 (C := RX7) (T := TX7) (N := 2) fl_X9_96 rfl wi_X7 (by decide) rfl ht rfl dX9_now_95 ?_
    rw [← hQQ]
    refine g_ireti k rfl dX9_now_98 ?_
    exact ⟨by unfold nwF; rw [if_neg (by omega)]; rw [if_neg (by omega)]; rw [if_neg (by omega)]; rw [if_neg (by omega)]; rw [if_neg (by omega)]; rw [if_pos (by omega)], hS, fr0⟩

def rfF (V : RV) (p : Int) : Int := if V.1 = 0 then -1 else if p = 0 then V.1 else if p = 1 then V.2.1 else if p = 2 then V.2.2.1 else if p = 3 then V.2.2.2.1 else -1
def rnF (V : RV) (p : Int) : Int := if 1 ≤ p ∧ p < V.1 then V.2.2.2.2 (p.toNat - 1) else -1
set_option maxHeartbeats 600000 in
set_option maxRecDepth 100000 in
theorem c_X9_refuted {G : Gx} {h : Hp} {nx x : Nat} {it : Nat} {φ : Fs} {ps : List (Nat × Fs)} {im : Nat → Option (Nat × Fs)} {V : RV} {n : Nat} {T : Nat → Int} {ft : Nat} (hS : SF G h x it φ ps im V n T ft) (hV8 : 0 ≤ V.1 ∧ V.1 ≤ 8) {p : Int} (rp : -2147483648 ≤ p ∧ p ≤ 2147483647) : Con G yX9_refuted cX9_refuted 2 (some .int) 1 0 0 [.ref x, vi p] h nx (PI fun z h' => z = rfF V p ∧ SF G h' x it φ ps im V n T ft ∧ ∀ q : Nat, (q < x ∨ x + 140 < q) → h' q = h q) := by
  obtain ⟨⟨sd, hx⟩, cF, cM, cP, cI, cV, cK, cR, cO, cW, cS, cZ, cT, cD⟩ := id hS
  have cF : FA G h (x + 1) it φ := cF
  have cP : PA G h (x + 9) ps := cP
  have cV : GV G h (x + 53) V := cV
  have cT : TA G h (x + 133) n T := cT
  have hf := cF.ob
  have hp := cP.ob
  have hv := cV.ob
  have ht := cT.1
  refine Con.of v_X9_refuted.2.2.2.2.2.1 (Nat.le_of_ble_eq_true rfl) (lv := [(0, .ref x), (1, vi p)]) rfl (fun X k => ?_)
  generalize hQQ : QM G X nx 0 0 _ = QQ
  have fr0 : ∀ q : Nat, (q < x ∨ x + 140 < q) → h q = h q := fun _ _ => rfl
  refine g_aload_n k rfl dX9_refuted_0 ?_
  refine g_get k 9 5 (C := RX9) (T := TX9) (N := 15) fl_X9_37 rfl wi_X9 (by decide) rfl hx rfl dX9_refuted_1 ?_
  refine g_get k 5 0 (C := RX5) (T := TX5) (N := 6) fl_X9_176 rfl wi_X5 (by decide) rfl hv rfl dX9_refuted_4 ?_
  refine g_if_ne k (tgt := 12) (by omega) dX9_refuted_7 (by decide) (fun c7 => ?_) (fun c7 => ?_)
  · skip
    refine g_iload_n k rfl dX9_refuted_12 ?_
    rcases (show p < 0 ∨ 3 < p ∨ p = 0 ∨ p = 1 ∨ p = 2 ∨ p = 3 by omega) with c13 | c13 | c13 | c13 | c13 | c13
    · skip
      refine g_tabOut k (tgt := 76) (by omega) (by omega) dX9_refuted_13 (by decide) ?_
      refine g_iconst k dX9_refuted_76 ?_
      rw [← hQQ]
      refine g_ireti k rfl dX9_refuted_77 ?_
      exact ⟨by unfold rfF; rw [if_neg (by omega)]; rw [if_neg (by omega)]; rw [if_neg (by omega)]; rw [if_neg (by omega)]; rw [if_neg (by omega)], hS, fr0⟩
    · skip
      refine g_tabOut k (tgt := 76) (by omega) (by omega) dX9_refuted_13 (by decide) ?_
      refine g_iconst k dX9_refuted_76 ?_
      rw [← hQQ]
      refine g_ireti k rfl dX9_refuted_77 ?_
      exact ⟨by unfold rfF; rw [if_neg (by omega)]; rw [if_neg (by omega)]; rw [if_neg (by omega)]; rw [if_neg (by omega)]; rw [if_neg (by omega)], hS, fr0⟩
    · skip
      refine g_tabIn k (off := 31) (tgt := 44) (by omega) (by omega) (by omega) (by rw [c13]; rfl) dX9_refuted_13 (by decide) ?_
      refine g_aload_n k rfl dX9_refuted_44 ?_
      refine g_get k 9 5 (C := RX9) (T := TX9) (N := 15) fl_X9_37 rfl wi_X9 (by decide) rfl hx rfl dX9_refuted_45 ?_
      refine g_get k 5 0 (C := RX5) (T := TX5) (N := 6) fl_X9_176 rfl wi_X5 (by decide) rfl hv rfl dX9_refuted_48 ?_
      rw [← hQQ]
      refine g_ireti k rfl dX9_refuted_51 ?_
      exact ⟨by unfold rfF; rw [if_neg (by omega)]; rw [if_pos (by omega)], hS, fr0⟩
    · skip
      refine g_tabIn k (off := 39) (tgt := 52) (by omega) (by omega) (by omega) (by rw [c13]; rfl) dX9_refuted_13 (by decide) ?_
      refine g_aload_n k rfl dX9_refuted_52 ?_
      refine g_get k 9 5 (C := RX9) (T := TX9) (N := 15) fl_X9_37 rfl wi_X9 (by decide) rfl hx rfl dX9_refuted_53 ?_
      refine g_get k 5 1 (C := RX5) (T := TX5) (N := 6) fl_X9_177 rfl wi_X5 (by decide) rfl hv rfl dX9_refuted_56 ?_
      rw [← hQQ]
      refine g_ireti k rfl dX9_refuted_59 ?_
      exact ⟨by unfold rfF; rw [if_neg (by omega)]; rw [if_neg (by omega)]; rw [if_pos (by omega)], hS, fr0⟩
    · skip
      refine g_tabIn k (off := 47) (tgt := 60) (by omega) (by omega) (by omega) (by rw [c13]; rfl) dX9_refuted_13 (by decide) ?_
      refine g_aload_n k rfl dX9_refuted_60 ?_
      refine g_get k 9 5 (C := RX9) (T := TX9) (N := 15) fl_X9_37 rfl wi_X9 (by decide) rfl hx rfl dX9_refuted_61 ?_
      refine g_get k 5 2 (C := RX5) (T := TX5) (N := 6) fl_X9_180 rfl wi_X5 (by decide) rfl hv rfl dX9_refuted_64 ?_
      rw [← hQQ]
      refine g_ireti k rfl dX9_refuted_67 ?_
      exact ⟨by unfold rfF; rw [if_neg (by omega)]; rw [if_neg (by omega)]; rw [if_neg (by omega)]; rw [if_pos (by omega)], hS, fr0⟩
    · skip
      refine g_tabIn k (off := 55) (tgt := 68) (by omega) (by omega) (by omega) (by rw [c13]; rfl) dX9_refuted_13 (by decide) ?_
      refine g_aload_n k rfl dX9_refuted_68 ?_
      refine g_get k 9 5 (C := RX9) (T := TX9) (N := 15) fl_X9_37 rfl wi_X9 (by decide) rfl hx rfl dX9_refuted_69 ?_
      refine g_get k 5 3 (C := RX5) (T := TX5) (N := 6) fl_X9_183 rfl wi_X5 (by decide) rfl hv rfl dX9_refuted_72 ?_
      rw [← hQQ]
      refine g_ireti k rfl dX9_refuted_75 ?_
      exact ⟨by unfold rfF; rw [if_neg (by omega)]; rw [if_neg (by omega)]; rw [if_neg (by omega)]; rw [if_neg (by omega)]; rw [if_pos (by omega)], hS, fr0⟩
  · skip
    refine g_iconst k dX9_refuted_10 ?_
    rw [← hQQ]
    refine g_ireti k rfl dX9_refuted_11 ?_
    exact ⟨by unfold rfF;  rw [if_pos (by omega)], hS, fr0⟩

set_option maxHeartbeats 600000 in
set_option maxRecDepth 100000 in
theorem c_X9_ring {G : Gx} {h : Hp} {nx x : Nat} {it : Nat} {φ : Fs} {ps : List (Nat × Fs)} {im : Nat → Option (Nat × Fs)} {V : RV} {n : Nat} {T : Nat → Int} {ft : Nat} (hS : SF G h x it φ ps im V n T ft) (hV8 : 0 ≤ V.1 ∧ V.1 ≤ 8) {p : Int} (rp : -2147483648 ≤ p ∧ p ≤ 2147483647) : Con G yX9_ring cX9_ring 2 (some .int) 1 0 0 [.ref x, vi p] h nx (PI fun z h' => z = rnF V p ∧ SF G h' x it φ ps im V n T ft ∧ ∀ q : Nat, (q < x ∨ x + 140 < q) → h' q = h q) := by
  obtain ⟨⟨sd, hx⟩, cF, cM, cP, cI, cV, cK, cR, cO, cW, cS, cZ, cT, cD⟩ := id hS
  have cF : FA G h (x + 1) it φ := cF
  have cP : PA G h (x + 9) ps := cP
  have cV : GV G h (x + 53) V := cV
  have cT : TA G h (x + 133) n T := cT
  have hf := cF.ob
  have hp := cP.ob
  have hv := cV.ob
  have ht := cT.1
  obtain ⟨rw9, SS9, hGA, hrw⟩ := id cV
  have hw := hGA.2.1
  refine Con.of v_X9_ring.2.2.2.2.2.1 (Nat.le_of_ble_eq_true rfl) (lv := [(0, .ref x), (1, vi p)]) rfl (fun X k => ?_)
  generalize hQQ : QM G X nx 0 0 _ = QQ
  have fr0 : ∀ q : Nat, (q < x ∨ x + 140 < q) → h q = h q := fun _ _ => rfl
  refine g_iload_n k rfl dX9_ring_0 ?_
  refine g_iconst k dX9_ring_1 ?_
  refine g_icmp_lt k (tgt := 30) (by omega) (by omega) dX9_ring_2 (by decide) (fun c2 => ?_) (fun c2 => ?_)
  · skip
    refine g_iconst k dX9_ring_30 ?_
    rw [← hQQ]
    refine g_ireti k rfl dX9_ring_31 ?_
    exact ⟨by unfold rnF; rw [if_neg (by omega)], hS, fr0⟩
  · skip
    refine g_iload_n k rfl dX9_ring_5 ?_
    refine g_aload_n k rfl dX9_ring_6 ?_
    refine g_get k 9 5 (C := RX9) (T := TX9) (N := 15) fl_X9_37 rfl wi_X9 (by decide) rfl hx rfl dX9_ring_7 ?_
    refine g_get k 5 0 (C := RX5) (T := TX5) (N := 6) fl_X9_176 rfl wi_X5 (by decide) rfl hv rfl dX9_ring_10 ?_
    refine g_icmp_ge k (tgt := 30) (by omega) (by omega) dX9_ring_13 (by decide) (fun c13 => ?_) (fun c13 => ?_)
    · skip
      refine g_iconst k dX9_ring_30 ?_
      rw [← hQQ]
      refine g_ireti k rfl dX9_ring_31 ?_
      exact ⟨by unfold rnF; rw [if_neg (by omega)], hS, fr0⟩
    · skip
      refine g_aload_n k rfl dX9_ring_16 ?_
      refine g_get k 9 5 (C := RX9) (T := TX9) (N := 15) fl_X9_37 rfl wi_X9 (by decide) rfl hx rfl dX9_ring_17 ?_
      refine g_get k 5 4 (C := RX5) (T := TX5) (N := 6) fl_X9_186 rfl wi_X5 (by decide) rfl hv rfl dX9_ring_20 ?_
      refine g_iload_n k rfl dX9_ring_23 ?_
      refine g_iconst k dX9_ring_24 ?_
      refine g_isub k dX9_ring_25 ?_
      refine g_iald k (p.toNat - 1) hw (by omega) (by omega) (by decide) dX9_ring_26 ?_
      rw [show rw9 (p.toNat - 1) = V.2.2.2.2 (p.toNat - 1) from (hrw (p.toNat - 1) (by omega))]
      refine g_goto k (tgt := 31) dX9_ring_27 (by decide) ?_
      rw [← hQQ]
      refine g_ireti k rfl dX9_ring_31 ?_
      exact ⟨by unfold rnF; rw [if_pos (by omega)], hS, fr0⟩

theorem sI.put {G : Gx} {h h' h'' : Hp} {x it : Nat} {φ : Fs} {im : Nat → Option (Nat × Fs)} (hc : sI G h x im) {k1 : Nat} (hk : k1 < 2) (hF : FA G h' (x + 44 + 4 * k1) it φ) (fr : ∀ q : Nat, (q < x + 44 + 4 * k1 ∨ x + 44 + 4 * k1 + 3 < q) → h' q = h q) {kz : Nat → Int} (hk0 : h' (x + 52) = some (az G 2 kz)) (hk1 : h'' (x + 52) = some (az G 2 (fu kz k1 1))) (fr2 : ∀ q : Nat, q ≠ x + 52 → h'' q = h' q) (hkz : ∀ k, k < 2 → kz k = (if (im k).isSome then 1 else 0)) : sI G h'' x (fu im k1 (some (it, φ))) := by
  obtain ⟨⟨f, h1, h2⟩, -, h5⟩ := hc
  refine ⟨⟨f, (fr2 _ (by omega)).trans ((fr _ (by omega)).trans h1), h2⟩, ⟨_, hk1, fun k hk9 => ?_⟩, fun k hk9 => ?_⟩
  · by_cases e : k = k1
    · subst e; rw [fu_s, fu_s]; rfl
    · rw [fu_n e, fu_n e]; exact hkz k hk9
  · by_cases e : k = k1
    · subst e
      have hF2 : FA G h'' (x + 44 + 4 * k) it φ := hF.keep (fun q g1 g2 => fr2 q (by omega))
      obtain ⟨K, F, S, hq⟩ := hF2.fc
      refine ⟨⟨_, _, K, F, S, hq⟩, fun i ψ e => ?_⟩
      rw [fu_s] at e
      have e1 := Option.some.inj e
      obtain ⟨rfl, rfl⟩ := Prod.mk.inj e1
      exact hF2
    · obtain ⟨⟨i, n, K, F, S, hq⟩, hp⟩ := h5 k hk9
      refine ⟨⟨i, n, K, F, S, hq.keep (fun q g1 g2 => (fr2 q (by omega)).trans (fr q (by omega)))⟩, fun i ψ e2 => ?_⟩
      rw [fu_n e] at e2
      exact (hp i ψ e2).keep (fun q g1 g2 => (fr2 q (by omega)).trans (fr q (by omega)))
set_option maxHeartbeats 600000 in
set_option maxRecDepth 100000 in
theorem c_X9_image {G : Gx} {h : Hp} {nx x : Nat} {it : Nat} {φ : Fs} {ps : List (Nat × Fs)} {im : Nat → Option (Nat × Fs)} {V : RV} {n : Nat} {T : Nat → Int} {ft : Nat} (hS : SF G h x it φ ps im V n T ft) (hSm : Sm it φ) {p : Int} (rp : -2147483648 ≤ p ∧ p ≤ 2147483647) : Con G yX9_image cX9_image 2 (some .boolean) 3 0 0 [.ref x, vi p] h nx (PI fun z h' => bz (0 ≤ p ∧ p < 2) z ∧ SF G h' x it φ ps (if 0 ≤ p ∧ p < 2 then fu im p.toNat (some (it, φ)) else im) V n T ft ∧ ∀ q : Nat, (q < x ∨ x + 140 < q) → h' q = h q) := by
  obtain ⟨⟨sd, hx⟩, cF, cM, cP, cI, cV, cK, cR, cO, cW, cS, cZ, cT, cD⟩ := id hS
  have cF : FA G h (x + 1) it φ := cF
  have cP : PA G h (x + 9) ps := cP
  have cV : GV G h (x + 53) V := cV
  have cT : TA G h (x + 133) n T := cT
  have hf := cF.ob
  have hp := cP.ob
  have hv := cV.ob
  have ht := cT.1
  obtain ⟨⟨fI, hI, hI0, hI1⟩, ⟨kz, hK, hkz⟩, hIm⟩ := cI
  obtain ⟨i20, n20, K20, F20, S20, hq20⟩ := (hIm 0 (by omega)).1
  obtain ⟨i21, n21, K21, F21, S21, hq21⟩ := (hIm 1 (by omega)).1
  have h28 := hSm.2.1
  refine Con.of v_X9_image.2.2.2.2.2.1 (Nat.le_of_ble_eq_true rfl) (lv := [(0, .ref x), (1, vi p)]) rfl (fun X k => ?_)
  generalize hQQ : QM G X nx 0 0 _ = QQ
  have fr0 : ∀ q : Nat, (q < x ∨ x + 140 < q) → h q = h q := fun _ _ => rfl
  refine g_iload_n k rfl dX9_image_0 ?_
  refine g_if_lt k (tgt := 9) (by omega) dX9_image_1 (by decide) (fun c1 => ?_) (fun c1 => ?_)
  · skip
    refine g_iconst k dX9_image_9 ?_
    rw [← hQQ]
    refine g_zreti k (by omega) rfl dX9_image_10 ?_
    rw [if_neg (by omega)]
    exact ⟨bz.n (by omega), hS, fr0⟩
  · skip
    refine g_iload_n k rfl dX9_image_4 ?_
    refine g_iconst k dX9_image_5 ?_
    refine g_icmp_lt k (tgt := 11) (by omega) (by omega) dX9_image_6 (by decide) (fun c6 => ?_) (fun c6 => ?_)
    · skip
      obtain ⟨k1, ek1, hk1⟩ := nat_of (p := p) (it := 2) ⟨by omega, by omega⟩
      rw [ek1]
      have hfI : fI k1 = some (x + 44 + 4 * k1) := by
        rcases (show k1 = 0 ∨ k1 = 1 by omega) with e | e
        · rw [e]; exact hI0
        · rw [e]; exact hI1
      obtain ⟨i2, n2, K2, F2, S2, hq2⟩ := (hIm k1 hk1).1
      have hj := hq2.1
      have hz01 : kz k1 = 0 ∨ kz k1 = 1 := by rw [hkz k1 hk1]; split <;> omega
      refine g_aload_n k rfl dX9_image_11 ?_
      refine g_get k 9 3 (C := RX9) (T := TX9) (N := 15) fl_X9_26 rfl wi_X9 (by decide) rfl hx rfl dX9_image_12 ?_
      refine g_iload_n k rfl dX9_image_15 ?_
      refine g_aldq k k1 hI (by omega) (by omega) (by decide) (b := x + 44 + 4 * k1) hfI dX9_image_16 ?_
      refine g_aload_n k rfl dX9_image_17 ?_
      refine g_get k 9 0 (C := RX9) (T := TX9) (N := 15) fl_X9_12 rfl wi_X9 (by decide) rfl hx rfl dX9_image_18 ?_
      refine g_cVv k 0 (As := [.ref (x + 1)]) v_X0_copyFrom rfl rfl hj ml_X9_113 (c_X0_copyFrom hq2 cF h28 (by omega)) (by omega) (by omega) rfl (Nat.le_of_ble_eq_true rfl) rfl dX9_image_21 (fun h21 p21 => ?_)
      obtain ⟨nF, nfr⟩ := p21
      have hx_ : h21 x = some (ob 9 [.ref (x + 1), .ref (x + 5), .ref (x + 9), .ref (x + 43), .ref (x + 52), .ref (x + 53), .ref (x + 56), .ref (x + 59), .ref (x + 61), .ref (x + 68), .ref (x + 130), .ref (x + 132), .ref (x + 133), .ref (x + 135), vi sd]) := (nfr _ (by omega)).trans hx
      have hf_ : h21 (x + 1) = some (ob 0 [vi (it : Int), vi (φ.length : Int), .ref (x + 1 + 1), .ref (x + 1 + 2), .ref (x + 1 + 3)]) := (nfr _ (by omega)).trans hf
      have hI_ : h21 (x + 43) = some (aq G 2 fI) := (nfr _ (by omega)).trans hI
      have hK_ : h21 (x + 52) = some (az G 2 kz) := (nfr _ (by omega)).trans hK
      have fr_ : ∀ q : Nat, (q < x ∨ x + 140 < q) → h21 q = h q := fun q hq => (nfr q (by omega)).trans (fr0 q hq)
      refine g_aload_n k rfl dX9_image_24 ?_
      refine g_get k 9 4 (C := RX9) (T := TX9) (N := 15) fl_X9_30 rfl wi_X9 (by decide) rfl hx_ rfl dX9_image_25 ?_
      refine g_iload_n k rfl dX9_image_28 ?_
      refine g_iconst k dX9_image_29 ?_
      refine g_zast k k1 (by omega) hK_ (by omega) (by omega) (by decide) dX9_image_30 (fun h30 eh30 => ?_)
      have hx__1 : h30 x = some (ob 9 [.ref (x + 1), .ref (x + 5), .ref (x + 9), .ref (x + 43), .ref (x + 52), .ref (x + 53), .ref (x + 56), .ref (x + 59), .ref (x + 61), .ref (x + 68), .ref (x + 130), .ref (x + 132), .ref (x + 133), .ref (x + 135), vi sd]) := (congrFun eh30 _).trans ((hup_n (by omega)).trans hx_)
      have hf__1 : h30 (x + 1) = some (ob 0 [vi (it : Int), vi (φ.length : Int), .ref (x + 1 + 1), .ref (x + 1 + 2), .ref (x + 1 + 3)]) := (congrFun eh30 _).trans ((hup_n (by omega)).trans hf_)
      have hI__1 : h30 (x + 43) = some (aq G 2 fI) := (congrFun eh30 _).trans ((hup_n (by omega)).trans hI_)
      have hK__1 : h30 (x + 52) = some (az G 2 (fu kz k1 1)) := (congrFun eh30 _).trans hup_s
      have fr__1 : ∀ q : Nat, (q < x ∨ x + 140 < q) → h30 q = h q := fun q hq => (congrFun eh30 q).trans ((hup_n (by omega)).trans (fr_ q hq))
      refine g_iconst k dX9_image_31 ?_
      rw [← hQQ]
      refine g_zreti k (by omega) rfl dX9_image_32 ?_
      rw [if_pos (show 0 ≤ p ∧ p < 2 by omega), show p.toNat = k1 by omega]
      exact ⟨bz.y (by omega), hS.sI (h' := h30) (sI.put (h' := h21) hS.2.2.2.2.1 hk1 nF (fun q g => nfr q (by omega)) ((nfr _ (by omega)).trans hK) hK__1 (fun q g => (congrFun eh30 q).trans (hup_n g)) hkz) (fun q g => (congrFun eh30 q).trans ((hup_n (by omega)).trans (nfr q (by omega)))), fr__1⟩
    · skip
      refine g_iconst k dX9_image_9 ?_
      rw [← hQQ]
      refine g_zreti k (by omega) rfl dX9_image_10 ?_
      rw [if_neg (by omega)]
      exact ⟨bz.n (by omega), hS, fr0⟩

def rsO (im : Nat → Option (Nat × Fs)) (p : Int) : Option (Nat × Fs) := if 0 ≤ p ∧ p < 2 then im p.toNat else none
def rsF0 (it : Nat) (φ : Fs) (ps : List (Nat × Fs)) : Option (Nat × Fs) → Nat × Fs × List (Nat × Fs)
  | some y => (y.1, y.2, [])
  | none => (it, φ, ps)
set_option maxHeartbeats 600000 in
set_option maxRecDepth 100000 in
theorem c_X9_restore {G : Gx} {h : Hp} {nx x : Nat} {it : Nat} {φ : Fs} {ps : List (Nat × Fs)} {im : Nat → Option (Nat × Fs)} {V : RV} {n : Nat} {T : Nat → Int} {ft : Nat} (hS : SF G h x it φ ps im V n T ft) (hSm : Sm it φ) (hIS : ∀ k i ψ, k < 2 → im k = some (i, ψ) → Sm i ψ) {p : Int} (rp : -2147483648 ≤ p ∧ p ≤ 2147483647) : Con G yX9_restore cX9_restore 2 (some .boolean) 3 0 0 [.ref x, vi p] h nx (PI fun z h' => bz ((rsO im p).isSome = true) z ∧ SF G h' x (rsF0 it φ ps (rsO im p)).1 (rsF0 it φ ps (rsO im p)).2.1 (rsF0 it φ ps (rsO im p)).2.2 im V n T ft ∧ ∀ q : Nat, (q < x ∨ x + 140 < q) → h' q = h q) := by
  obtain ⟨⟨sd, hx⟩, cF, cM, cP, cI, cV, cK, cR, cO, cW, cS, cZ, cT, cD⟩ := id hS
  have cF : FA G h (x + 1) it φ := cF
  have cP : PA G h (x + 9) ps := cP
  have cV : GV G h (x + 53) V := cV
  have cT : TA G h (x + 133) n T := cT
  have hf := cF.ob
  have hp := cP.ob
  have hv := cV.ob
  have ht := cT.1
  obtain ⟨⟨fI, hI, hI0, hI1⟩, ⟨kz, hK, hkz⟩, hIm⟩ := cI
  obtain ⟨i20, n20, K20, F20, S20, hq20⟩ := (hIm 0 (by omega)).1
  obtain ⟨i21, n21, K21, F21, S21, hq21⟩ := (hIm 1 (by omega)).1
  have h28 := hSm.2.1
  obtain ⟨Kc, Fc, Sc, hFC⟩ := cF.fc
  refine Con.of v_X9_restore.2.2.2.2.2.1 (Nat.le_of_ble_eq_true rfl) (lv := [(0, .ref x), (1, vi p)]) rfl (fun X k => ?_)
  generalize hQQ : QM G X nx 0 0 _ = QQ
  have fr0 : ∀ q : Nat, (q < x ∨ x + 140 < q) → h q = h q := fun _ _ => rfl
  refine g_iload_n k rfl dX9_restore_0 ?_
  refine g_if_lt k (tgt := 18) (by omega) dX9_restore_1 (by decide) (fun c1 => ?_) (fun c1 => ?_)
  · skip
    refine g_iconst k dX9_restore_18 ?_
    rw [← hQQ]
    refine g_zreti k (by omega) rfl dX9_restore_19 ?_
    have e0 : rsO im p = none := by unfold rsO; rw [if_neg (by omega)]
    rw [e0]
    exact ⟨bz.n (by simp), hS, fr0⟩
  · skip
    refine g_iload_n k rfl dX9_restore_4 ?_
    refine g_iconst k dX9_restore_5 ?_
    refine g_icmp_ge k (tgt := 18) (by omega) (by omega) dX9_restore_6 (by decide) (fun c6 => ?_) (fun c6 => ?_)
    · skip
      refine g_iconst k dX9_restore_18 ?_
      rw [← hQQ]
      refine g_zreti k (by omega) rfl dX9_restore_19 ?_
      have e0 : rsO im p = none := by unfold rsO; rw [if_neg (by omega)]
      rw [e0]
      exact ⟨bz.n (by simp), hS, fr0⟩
    · skip
      obtain ⟨k1, ek1, hk1⟩ := nat_of (p := p) (it := 2) ⟨by omega, by omega⟩
      rw [ek1]
      have hfI : fI k1 = some (x + 44 + 4 * k1) := by
        rcases (show k1 = 0 ∨ k1 = 1 by omega) with e | e
        · rw [e]; exact hI0
        · rw [e]; exact hI1
      obtain ⟨i2, n2, K2, F2, S2, hq2⟩ := (hIm k1 hk1).1
      have hj := hq2.1
      have hz01 : kz k1 = 0 ∨ kz k1 = 1 := by rw [hkz k1 hk1]; split <;> omega
      refine g_aload_n k rfl dX9_restore_9 ?_
      refine g_get k 9 4 (C := RX9) (T := TX9) (N := 15) fl_X9_30 rfl wi_X9 (by decide) rfl hx rfl dX9_restore_10 ?_
      refine g_iload_n k rfl dX9_restore_13 ?_
      refine g_zald k k1 hK (by omega) (by omega) (by decide) dX9_restore_14 ?_
      refine g_if_ne k (tgt := 20) (by omega) dX9_restore_15 (by decide) (fun c15 => ?_) (fun c15 => ?_)
      · skip
        obtain ⟨y, hy⟩ : ∃ y, im k1 = some y := by
          have e9 := hkz k1 hk1
          cases e8 : im k1 with
          | none => rw [e8] at e9; exact absurd e9 (by simp; omega)
          | some y => exact ⟨y, rfl⟩
        have hF9 := (hIm k1 hk1).2 y.1 y.2 hy
        have hl9 := (hIS k1 y.1 y.2 hk1 hy).2.1
        refine g_aload_n k rfl dX9_restore_20 ?_
        refine g_get k 9 0 (C := RX9) (T := TX9) (N := 15) fl_X9_12 rfl wi_X9 (by decide) rfl hx rfl dX9_restore_21 ?_
        refine g_aload_n k rfl dX9_restore_24 ?_
        refine g_get k 9 3 (C := RX9) (T := TX9) (N := 15) fl_X9_26 rfl wi_X9 (by decide) rfl hx rfl dX9_restore_25 ?_
        refine g_iload_n k rfl dX9_restore_28 ?_
        refine g_aldq k k1 hI (by omega) (by omega) (by decide) (b := x + 44 + 4 * k1) hfI dX9_restore_29 ?_
        refine g_cVv k 0 (As := [.ref (x + 44 + 4 * k1)]) v_X0_copyFrom rfl rfl hf ml_X9_113 (c_X0_copyFrom hFC hF9 hl9 (by omega)) (by omega) (by omega) rfl (Nat.le_of_ble_eq_true rfl) rfl dX9_restore_30 (fun h30 p30 => ?_)
        obtain ⟨nF, nfr⟩ := p30
        have hx_ : h30 x = some (ob 9 [.ref (x + 1), .ref (x + 5), .ref (x + 9), .ref (x + 43), .ref (x + 52), .ref (x + 53), .ref (x + 56), .ref (x + 59), .ref (x + 61), .ref (x + 68), .ref (x + 130), .ref (x + 132), .ref (x + 133), .ref (x + 135), vi sd]) := (nfr _ (by omega)).trans hx
        have hp_ : h30 (x + 9) = some (ob 2 [vi (ps.length : Int), .ref (x + 9 + 1)]) := (nfr _ (by omega)).trans hp
        have hI_ : h30 (x + 43) = some (aq G 2 fI) := (nfr _ (by omega)).trans hI
        have hK_ : h30 (x + 52) = some (az G 2 kz) := (nfr _ (by omega)).trans hK
        have hj_ : h30 (x + 44 + 4 * k1) = some (ob 0 [vi (i2 : Int), vi (n2 : Int), .ref (x + 44 + 4 * k1 + 1), .ref (x + 44 + 4 * k1 + 2), .ref (x + 44 + 4 * k1 + 3)]) := (nfr _ (by omega)).trans hj
        have fr_ : ∀ q : Nat, (q < x ∨ x + 140 < q) → h30 q = h q := fun q hq => (nfr q (by omega)).trans (fr0 q hq)
        have hS1 := hS.sF nF (fun q g => nfr q (by omega))
        refine g_aload_n k rfl dX9_restore_33 ?_
        refine g_get k 9 2 (C := RX9) (T := TX9) (N := 15) fl_X9_22 rfl wi_X9 (by decide) rfl hx_ rfl dX9_restore_34 ?_
        refine g_iconst k dX9_restore_37 ?_
        refine g_put k 2 0 (C := RX2) (T := TX2) (N := 2) fl_X9_117 rfl wi_X2 tyX2 tyX2_ok nmX2 (by decide) rfl rfl rfl rfl hp_ (Nat.le_of_ble_eq_true rfl) (fs2 := [vi 0, .ref (x + 9 + 1)]) rfl rfl dX9_restore_38 (fun h38 eh38 => ?_)
        have hx__1 : h38 x = some (ob 9 [.ref (x + 1), .ref (x + 5), .ref (x + 9), .ref (x + 43), .ref (x + 52), .ref (x + 53), .ref (x + 56), .ref (x + 59), .ref (x + 61), .ref (x + 68), .ref (x + 130), .ref (x + 132), .ref (x + 133), .ref (x + 135), vi sd]) := (congrFun eh38 _).trans ((hup_n (by omega)).trans hx_)
        have hp__1 : h38 (x + 9) = some (ob 2 [vi 0, .ref (x + 9 + 1)]) := (congrFun eh38 _).trans hup_s
        have hI__1 : h38 (x + 43) = some (aq G 2 fI) := (congrFun eh38 _).trans ((hup_n (by omega)).trans hI_)
        have hK__1 : h38 (x + 52) = some (az G 2 kz) := (congrFun eh38 _).trans ((hup_n (by omega)).trans hK_)
        have hj__1 : h38 (x + 44 + 4 * k1) = some (ob 0 [vi (i2 : Int), vi (n2 : Int), .ref (x + 44 + 4 * k1 + 1), .ref (x + 44 + 4 * k1 + 2), .ref (x + 44 + 4 * k1 + 3)]) := (congrFun eh38 _).trans ((hup_n (by omega)).trans hj_)
        have fr__1 : ∀ q : Nat, (q < x ∨ x + 140 < q) → h38 q = h q := fun q hq => (congrFun eh38 q).trans ((hup_n (by omega)).trans (fr_ q hq))
        have hS2 := hS1.sP (h' := h38) (PA_clear hS1.2.2.2.1 hp__1 (fun q g1 g2 => (congrFun eh38 q).trans (hup_n (by omega)))) (fun q g => (congrFun eh38 q).trans (hup_n (by omega)))
        refine g_iconst k dX9_restore_41 ?_
        rw [← hQQ]
        refine g_zreti k (by omega) rfl dX9_restore_42 ?_
        have e0 : rsO im p = some y := by unfold rsO; rw [if_pos (by omega), show p.toNat = k1 by omega]; exact hy
        rw [e0]
        exact ⟨bz.y rfl, hS2, fr__1⟩
      · skip
        refine g_iconst k dX9_restore_18 ?_
        rw [← hQQ]
        refine g_zreti k (by omega) rfl dX9_restore_19 ?_
        have e0 : rsO im p = none := by
          unfold rsO
          rw [if_pos (by omega), show p.toNat = k1 by omega]
          have e9 := hkz k1 hk1
          cases e8 : im k1 with
          | none => rfl
          | some y => rw [e8] at e9; exact absurd e9 (by simp; omega)
        rw [e0]
        exact ⟨bz.n (by simp), hS, fr0⟩

