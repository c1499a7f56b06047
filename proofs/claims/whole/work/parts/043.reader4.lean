noncomputable def rRow (T : Nat → Int) (n lm : Nat) (x : RS) : Prop × RS := haveI := Classical.propDecidable (x.1.1 = 1 ∧ x.1.2.2.2 = 315565); if x.1.1 = 1 ∧ x.1.2.2.2 = 315565 then rItem T n lm x else rFact T n lm x
noncomputable def rdL (T : Nat → Int) (n lm : Nat) : Nat → RS → Nat → Nat × RS
  | 0, x, c => (c, x)
  | k + 1, x, c => haveI := Classical.propDecidable (rRow T n lm x).1; if x.1.1 = 0 then (c, x) else if (rRow T n lm x).1 then rdL T n lm k (nxT T n lm (rRow T n lm x).2.1, (rRow T n lm x).2.2) (c + 1) else (c, (rRow T n lm x).2)
theorem rdL_le {T : Nat → Int} {n lm : Nat} : ∀ k x c, (rdL T n lm k x c).1 ≤ c + k
  | 0, x, c => Nat.le_refl c
  | k + 1, x, c => by
    unfold rdL
    split
    · dsimp only; omega
    · split
      · have := rdL_le (T := T) (n := n) (lm := lm) k (nxT T n lm (rRow T n lm x).2.1, (rRow T n lm x).2.2) (c + 1)
        omega
      · dsimp only; omega
/-- a whole text: rows, fault, its place, what was read -/
noncomputable def rdA (T : Nat → Int) (n : Nat) (wd : Int) (NM : Nat → Int) (fp : Nat) (V : RV) : Nat × RS := rdL T n (if 700 < n then 700 else n) 700 (stF T n (if 700 < n then 700 else n) 0 wd, 0, [], NM, 0, fp, V) 0
noncomputable def rdB (T : Nat → Int) (n : Nat) (wd : Int) (NM : Nat → Int) (fp : Nat) (V : RV) : Nat × RS :=
  let y := rdA T n wd NM fp V
  if y.2.2.2.2.2.1 = 0 ∧ 700 < n then (y.1, (y.2.1, y.2.2.1, y.2.2.2.1, y.2.2.2.2.1, 1, 700, y.2.2.2.2.2.2.2)) else y
def rdZ (y : Nat × RS) : Int := if y.2.2.2.2.2.1 = 0 then (y.1 : Int) else -1 - (y.2.2.2.2.2.2.1 : Int)
set_option maxHeartbeats 6000000 in
set_option maxRecDepth 100000 in
theorem c_X4_read {G : Gx} {h : Hp} {nx a t r n fp : Nat} {T : Nat → Int} {ft lm1 pl nt tk wd : Int} {NM : Nat → Int} {V : RV} (hA : RDC G h a ft fp lm1 pl nt tk wd NM t r) {it1 m1 : Nat} {K5 F5 Z5 : Nat → Int} (hD : FC G h (a + 1) it1 m1 K5 F5 Z5) (hV : GV G h r V) (hT : TA G h t n T) (hn7 : n ≤ 740) (hfp : fp ≤ 740) (hBy : Byt T) (hLa : Lay a t r) : Con G yX4_read cX4_read 2 (some .int) 7 0 0 [.ref a] h nx (PI fun z h' => z = rdZ (rdB T n wd NM fp V) ∧ RDA G h' a t r (if 700 < n then 700 else n) n (rdB T n wd NM fp V).2 ∧ ∀ q : Nat, (q < a ∨ a + 5 < q) → (q < r ∨ r + 2 < q) → h' q = h q) := by
  obtain ⟨ha, hn⟩ := hA
  obtain ⟨d1, d2, d3⟩ := id hLa
  have hd := hD.1
  have ht := hT.1
  obtain ⟨lm, elm⟩ : ∃ lm : Nat, lm = (if 700 < n then 700 else n) := ⟨_, rfl⟩
  have hlm : lm ≤ n := by rw [elm]; split <;> omega
  have hl7 : lm ≤ 700 := by rw [elm]; split <;> omega
  refine Con.of v_X4_read.2.2.2.2.2.1 (Nat.le_of_ble_eq_true rfl) (lv := [(0, .ref a)]) rfl (fun X k => ?_)
  generalize hQQ : QM G X nx 0 0 _ = QQ
  have fr0 : ∀ q : Nat, ((q < a ∨ a + 5 < q) ∧ (q < r ∨ r + 2 < q)) → h q = h q := fun _ _ => rfl
  refine g_aload_n k rfl dX4_read_0 ?_
  refine g_iconst k dX4_read_1 ?_
  refine g_put k 4 0 (C := RX4) (T := TX4) (N := 11) fl_X4_30 rfl wi_X4 tyX4 tyX4_ok nmX4 (by decide) rfl rfl rfl rfl ha (Nat.le_of_ble_eq_true rfl) (fs2 := [vi 0, .ref (a + 1), vi (fp : Int), vi lm1, vi pl, vi nt, vi tk, vl wd, .ref (a + 5), .ref t, .ref r]) rfl rfl dX4_read_2 (fun h2 eh2 => ?_)
  have ha_ : h2 a = some (ob 4 [vi 0, .ref (a + 1), vi (fp : Int), vi lm1, vi pl, vi nt, vi tk, vl wd, .ref (a + 5), .ref t, .ref r]) := (congrFun eh2 _).trans hup_s
  have hn_ : h2 (a + 5) = some (al G 8 NM) := (congrFun eh2 _).trans ((hup_n (by omega)).trans hn)
  have hd_ : h2 (a + 1) = some (ob 0 [vi (it1 : Int), vi (m1 : Int), .ref (a + 1 + 1), .ref (a + 1 + 2), .ref (a + 1 + 3)]) := (congrFun eh2 _).trans ((hup_n (by omega)).trans hd)
  have ht_ : h2 t = some (ob 7 [vi (n : Int), .ref (t + 1)]) := (congrFun eh2 _).trans ((hup_n (by omega)).trans ht)
  have fr_ : ∀ q : Nat, ((q < a ∨ a + 5 < q) ∧ (q < r ∨ r + 2 < q)) → h2 q = h q := fun q hq => (congrFun eh2 q).trans ((hup_n (by omega)).trans (fr0 q hq))
  refine g_aload_n k rfl dX4_read_5 ?_
  refine g_iconst k dX4_read_6 ?_
  refine g_put k 4 5 (C := RX4) (T := TX4) (N := 11) fl_X4_34 rfl wi_X4 tyX4 tyX4_ok nmX4 (by decide) rfl rfl rfl rfl ha_ (Nat.le_of_ble_eq_true rfl) (fs2 := [vi 0, .ref (a + 1), vi (fp : Int), vi lm1, vi pl, vi 0, vi tk, vl wd, .ref (a + 5), .ref t, .ref r]) rfl rfl dX4_read_7 (fun h7 eh7 => ?_)
  have ha__1 : h7 a = some (ob 4 [vi 0, .ref (a + 1), vi (fp : Int), vi lm1, vi pl, vi 0, vi tk, vl wd, .ref (a + 5), .ref t, .ref r]) := (congrFun eh7 _).trans hup_s
  have hn__1 : h7 (a + 5) = some (al G 8 NM) := (congrFun eh7 _).trans ((hup_n (by omega)).trans hn_)
  have hd__1 : h7 (a + 1) = some (ob 0 [vi (it1 : Int), vi (m1 : Int), .ref (a + 1 + 1), .ref (a + 1 + 2), .ref (a + 1 + 3)]) := (congrFun eh7 _).trans ((hup_n (by omega)).trans hd_)
  have ht__1 : h7 t = some (ob 7 [vi (n : Int), .ref (t + 1)]) := (congrFun eh7 _).trans ((hup_n (by omega)).trans ht_)
  have fr__1 : ∀ q : Nat, ((q < a ∨ a + 5 < q) ∧ (q < r ∨ r + 2 < q)) → h7 q = h q := fun q hq => (congrFun eh7 q).trans ((hup_n (by omega)).trans (fr_ q hq))
  refine g_aload_n k rfl dX4_read_10 ?_
  refine g_aload_n k rfl dX4_read_11 ?_
  refine g_get k 4 9 (C := RX4) (T := TX4) (N := 11) fl_X4_22 rfl wi_X4 (by decide) rfl ha__1 rfl dX4_read_12 ?_
  refine g_get k 7 0 (C := RX7) (T := TX7) (N := 2) fl_X4_37 rfl wi_X7 (by decide) rfl ht__1 rfl dX4_read_15 ?_
  refine g_sipush k rfl dX4_read_18 ?_
  refine g_min k (by omega) (by omega) ml_X4_42 st_min cd_min (by omega) (by omega) (Nat.le_of_ble_eq_true rfl) dX4_read_21 ?_
  rw [show (if 700 < (n : Int) then 700 else (n : Int)) = (lm : Int) from (by rw [elm]; by_cases c : 700 < n; (rw [if_pos c, if_pos (by omega)]; rfl); rw [if_neg c, if_neg (by omega)])]
  refine g_put k 4 3 (C := RX4) (T := TX4) (N := 11) fl_X4_48 rfl wi_X4 tyX4 tyX4_ok nmX4 (by decide) rfl rfl rfl rfl ha__1 (Nat.le_of_ble_eq_true rfl) (fs2 := [vi 0, .ref (a + 1), vi (fp : Int), vi (lm : Int), vi pl, vi 0, vi tk, vl wd, .ref (a + 5), .ref t, .ref r]) rfl rfl dX4_read_24 (fun h24 eh24 => ?_)
  have ha__2 : h24 a = some (ob 4 [vi 0, .ref (a + 1), vi (fp : Int), vi (lm : Int), vi pl, vi 0, vi tk, vl wd, .ref (a + 5), .ref t, .ref r]) := (congrFun eh24 _).trans hup_s
  have hn__2 : h24 (a + 5) = some (al G 8 NM) := (congrFun eh24 _).trans ((hup_n (by omega)).trans hn__1)
  have hd__2 : h24 (a + 1) = some (ob 0 [vi (it1 : Int), vi (m1 : Int), .ref (a + 1 + 1), .ref (a + 1 + 2), .ref (a + 1 + 3)]) := (congrFun eh24 _).trans ((hup_n (by omega)).trans hd__1)
  have ht__2 : h24 t = some (ob 7 [vi (n : Int), .ref (t + 1)]) := (congrFun eh24 _).trans ((hup_n (by omega)).trans ht__1)
  have fr__2 : ∀ q : Nat, ((q < a ∨ a + 5 < q) ∧ (q < r ∨ r + 2 < q)) → h24 q = h q := fun q hq => (congrFun eh24 q).trans ((hup_n (by omega)).trans (fr__1 q hq))
  refine g_aload_n k rfl dX4_read_27 ?_
  refine g_get k 4 1 (C := RX4) (T := TX4) (N := 11) fl_X4_14 rfl wi_X4 (by decide) rfl ha__2 rfl dX4_read_28 ?_
  refine g_cVv k 0 (As := []) v_X0_clear rfl rfl hd__2 ml_X4_51 (c_X0_clear (hD.keep (fun q g1 g2 => by first | exact (congrFun eh24 q).trans ((hup_n (by omega)).trans ((congrFun eh7 q).trans ((hup_n (by omega)).trans ((congrFun eh2 q).trans (hup_n (by omega)))))) ))) (by omega) (by omega) rfl (Nat.le_of_ble_eq_true rfl) rfl dX4_read_31 (fun h31 p31 => ?_)
  obtain ⟨cD, nfr⟩ := p31
  have ha__3 : h31 a = some (ob 4 [vi 0, .ref (a + 1), vi (fp : Int), vi (lm : Int), vi pl, vi 0, vi tk, vl wd, .ref (a + 5), .ref t, .ref r]) := (nfr _ (by omega)).trans ha__2
  have hn__3 : h31 (a + 5) = some (al G 8 NM) := (nfr _ (by omega)).trans hn__2
  have hd__3 : h31 (a + 1) = some (ob 0 [vi 0, vi 0, .ref (a + 1 + 1), .ref (a + 1 + 2), .ref (a + 1 + 3)]) := cD.1
  have ht__3 : h31 t = some (ob 7 [vi (n : Int), .ref (t + 1)]) := (nfr _ (by omega)).trans ht__2
  have fr__3 : ∀ q : Nat, ((q < a ∨ a + 5 < q) ∧ (q < r ∨ r + 2 < q)) → h31 q = h q := fun q hq => (nfr q (by omega)).trans (fr__2 q hq)
  have hV31 := hV.keep (h' := h31) (fun q g1 g2 => (nfr q (by omega)).trans ((congrFun eh24 q).trans ((hup_n (by omega)).trans ((congrFun eh7 q).trans ((hup_n (by omega)).trans ((congrFun eh2 q).trans (hup_n (by omega))))))))
  refine g_iconst k dX4_read_34 ?_
  refine g_istore_n k (lv2 := [(0, .ref a), (1, vi 0)]) (by decide) rfl rfl dX4_read_35 ?_
  refine g_aload_n k rfl dX4_read_36 ?_
  refine g_cVv k 4 (As := []) v_X4_step rfl rfl ha__3 ml_X4_54 (c_X4_step (a := a) (nt0 := 0) (lm0 := lm) ⟨ha__3, hn__3⟩ (hT.keep (fun q g1 => fr__3 q ⟨by omega, by omega⟩)) hn7 hBy d1 hlm (Nat.zero_le n)) (by omega) (by omega) rfl (Nat.le_of_ble_eq_true rfl) rfl dX4_read_37 (fun h37 p37 => ?_)
  obtain ⟨⟨na, nn⟩, nfr2⟩ := p37
  have ha__4 : h37 a = some (ob 4 [vi (((stF T n lm 0 wd, 0, [], NM, 0, fp, V) : RS).2.2.2.2.1 : Int), .ref (a + 1), vi (((stF T n lm 0 wd, 0, [], NM, 0, fp, V) : RS).2.2.2.2.2.1 : Int), vi (lm : Int), vi (((stF T n lm 0 wd, 0, [], NM, 0, fp, V) : RS).1.2.1 : Int), vi (((stF T n lm 0 wd, 0, [], NM, 0, fp, V) : RS).1.2.2.1 : Int), vi (((stF T n lm 0 wd, 0, [], NM, 0, fp, V) : RS).1.1 : Int), vl (((stF T n lm 0 wd, 0, [], NM, 0, fp, V) : RS).1.2.2.2), .ref (a + 5), .ref t, .ref r]) := na
  have hn__4 : h37 (a + 5) = some (al G 8 (((stF T n lm 0 wd, 0, [], NM, 0, fp, V) : RS).2.2.2.1)) := nn
  have ht__4 : h37 t = some (ob 7 [vi (n : Int), .ref (t + 1)]) := (nfr2 _ (by omega)).trans ht__3
  have fr__4 : ∀ q : Nat, ((q < a ∨ a + 5 < q) ∧ (q < r ∨ r + 2 < q)) → h37 q = h q := fun q hq => (nfr2 q (by omega)).trans (fr__3 q hq)
  have hAx : RDA G h37 a t r lm n ((stF T n lm 0 wd, 0, [], NM, 0, fp, V) : RS) := ⟨⟨ha__4, hn__4⟩, ⟨K5, F5, Z5, cD.1 |> fun z => (nfr2 _ (by omega)).trans z, (nfr2 _ (by omega)).trans cD.2.1, (nfr2 _ (by omega)).trans cD.2.2.1, (nfr2 _ (by omega)).trans cD.2.2.2, Rows.nil⟩, ⟨Nat.zero_le 8, Nat.zero_le 28, fun i hi => absurd hi (Nat.not_lt_zero i)⟩, hV31.keep (fun q g1 g2 => nfr2 q (by omega)), stF_ok hlm (Nat.zero_le n), fun i hi => absurd hi (Nat.not_lt_zero i), by dsimp only; omega, by dsimp only; omega⟩
  have hTx := hT.keep (h' := h37) (fun q g1 => fr__4 q ⟨by omega, by omega⟩)
  have K40 : ∀ (nz : Nat) (x : RS) (c : Nat) (kf : Nat) (h40 : Hp) (ha__5 : h40 a = some (ob 4 [vi (x.2.2.2.2.1 : Int), .ref (a + 1), vi (x.2.2.2.2.2.1 : Int), vi (lm : Int), vi (x.1.2.1 : Int), vi (x.1.2.2.1 : Int), vi (x.1.1 : Int), vl (x.1.2.2.2), .ref (a + 5), .ref t, .ref r])) (hn__5 : h40 (a + 5) = some (al G 8 (x.2.2.2.1))) (ht__5 : h40 t = some (ob 7 [vi (n : Int), .ref (t + 1)])) (fr__5 : ∀ q : Nat, ((q < a ∨ a + 5 < q) ∧ (q < r ∨ r + 2 < q)) → h40 q = h q) (hA1 : RDA G h40 a t r lm n x) (hT1 : TA G h40 t n T) (hck : c + kf = 700) (hrd : rdL T n lm kf x c = rdL T n lm 700 ((stF T n lm 0 wd, 0, [], NM, 0, fp, V) : RS) 0) (hmz : kf < nz), Go G X 2 QQ 0 0 nx 40 [(0, .ref a), (1, vi (c : Int))] [] h40 := by
    intro nz
    induction nz with
    | zero => intro x c kf h40 ha__5 hn__5 ht__5 fr__5 hA1 hT1 hck hrd hmz; exact absurd hmz (Nat.not_lt_zero _)
    | succ nz ih40 =>
      intro x c kf h40 ha__5 hn__5 ht__5 fr__5 hA1 hT1 hck hrd hmz
      have K88 : ∀ (x1 : RS) (c1 : Nat) (h88 : Hp) (ha__6 : h88 a = some (ob 4 [vi (x1.2.2.2.2.1 : Int), .ref (a + 1), vi (x1.2.2.2.2.2.1 : Int), vi (lm : Int), vi (x1.1.2.1 : Int), vi (x1.1.2.2.1 : Int), vi (x1.1.1 : Int), vl (x1.1.2.2.2), .ref (a + 5), .ref t, .ref r])) (hn__6 : h88 (a + 5) = some (al G 8 (x1.2.2.2.1))) (ht__6 : h88 t = some (ob 7 [vi (n : Int), .ref (t + 1)])) (fr__6 : ∀ q : Nat, ((q < a ∨ a + 5 < q) ∧ (q < r ∨ r + 2 < q)) → h88 q = h q) (hA8 : RDA G h88 a t r lm n x1) (hy : rdL T n lm 700 ((stF T n lm 0 wd, 0, [], NM, 0, fp, V) : RS) 0 = (c1, x1)), Go G X 2 QQ 0 0 nx 88 [(0, .ref a), (1, vi (c1 : Int))] [] h88 := by
        intro x1 c1 h88 ha__6 hn__6 ht__6 fr__6 hA8 hy
        have ey : rdA T n wd NM fp V = (c1, x1) := by unfold rdA; rw [← elm]; exact hy
        have hcb : c1 ≤ 700 := by have := rdL_le (T := T) (n := n) (lm := lm) 700 ((stF T n lm 0 wd, 0, [], NM, 0, fp, V) : RS) 0; rw [hy] at this; dsimp only at this; omega
        have hA82 := hA8.2.2.2.2.2.2
        refine g_aload_n k rfl dX4_read_88 ?_
        refine g_get k 4 0 (C := RX4) (T := TX4) (N := 11) fl_X4_30 rfl wi_X4 (by decide) rfl ha__6 rfl dX4_read_89 ?_
        refine g_if_ne k (tgt := 117) (by omega) dX4_read_92 (by decide) (fun c92 => ?_) (fun c92 => ?_)
        · skip
          refine g_aload_n k rfl dX4_read_117 ?_
          refine g_get k 4 0 (C := RX4) (T := TX4) (N := 11) fl_X4_30 rfl wi_X4 (by decide) rfl ha__6 rfl dX4_read_118 ?_
          refine g_if_ne k (tgt := 128) (by omega) dX4_read_121 (by decide) (fun c121 => ?_) (fun c121 => ?_)
          · skip
            refine g_iconst k dX4_read_128 ?_
            refine g_aload_n k rfl dX4_read_129 ?_
            refine g_get k 4 2 (C := RX4) (T := TX4) (N := 11) fl_X4_74 rfl wi_X4 (by decide) rfl ha__6 rfl dX4_read_130 ?_
            refine g_isub k dX4_read_133 ?_
            rw [← hQQ]
            refine g_ireti k rfl dX4_read_134 ?_
            have eb : rdB T n wd NM fp V = (c1, x1) := by
              unfold rdB
              rw [ey]
              dsimp only
              rw [if_neg (by omega)]
            rw [eb, ← elm]
            exact ⟨by rw [rdZ]; dsimp only; rw [if_neg (by omega)]; try rfl, hA8, fun q g1 g2 => fr__6 q ⟨g1, g2⟩⟩
          · skip
            refine g_iload_n k rfl dX4_read_124 ?_
            refine g_goto k (tgt := 134) dX4_read_125 (by decide) ?_
            rw [← hQQ]
            refine g_ireti k rfl dX4_read_134 ?_
            exfalso; omega
        · skip
          refine g_aload_n k rfl dX4_read_95 ?_
          refine g_get k 4 9 (C := RX4) (T := TX4) (N := 11) fl_X4_22 rfl wi_X4 (by decide) rfl ha__6 rfl dX4_read_96 ?_
          refine g_get k 7 0 (C := RX7) (T := TX7) (N := 2) fl_X4_37 rfl wi_X7 (by decide) rfl ht__6 rfl dX4_read_99 ?_
          refine g_sipush k rfl dX4_read_102 ?_
          refine g_icmp_le k (tgt := 117) (by omega) (by omega) dX4_read_105 (by decide) (fun c105 => ?_) (fun c105 => ?_)
          · skip
            refine g_aload_n k rfl dX4_read_117 ?_
            refine g_get k 4 0 (C := RX4) (T := TX4) (N := 11) fl_X4_30 rfl wi_X4 (by decide) rfl ha__6 rfl dX4_read_118 ?_
            refine g_if_ne k (tgt := 128) (by omega) dX4_read_121 (by decide) (fun c121_1 => ?_) (fun c121_1 => ?_)
            · skip
              refine g_iconst k dX4_read_128 ?_
              refine g_aload_n k rfl dX4_read_129 ?_
              refine g_get k 4 2 (C := RX4) (T := TX4) (N := 11) fl_X4_74 rfl wi_X4 (by decide) rfl ha__6 rfl dX4_read_130 ?_
              refine g_isub k dX4_read_133 ?_
              rw [← hQQ]
              refine g_ireti k rfl dX4_read_134 ?_
              exfalso; omega
            · skip
              refine g_iload_n k rfl dX4_read_124 ?_
              refine g_goto k (tgt := 134) dX4_read_125 (by decide) ?_
              rw [← hQQ]
              refine g_ireti k rfl dX4_read_134 ?_
              have eb : rdB T n wd NM fp V = (c1, x1) := by
                unfold rdB
                rw [ey]
                dsimp only
                rw [if_neg (by omega)]
              rw [eb, ← elm]
              exact ⟨by rw [rdZ]; dsimp only; rw [if_pos (by omega)]; try rfl, hA8, fun q g1 g2 => fr__6 q ⟨g1, g2⟩⟩
          · skip
            refine g_aload_n k rfl dX4_read_108 ?_
            refine g_iconst k dX4_read_109 ?_
            refine g_sipush k rfl dX4_read_110 ?_
            refine g_cVi k 4 (As := [vi 1, vi 700]) v_X4_fail rfl rfl ha__6 ml_X4_70 (c_X4_fail hA8.1) (by omega) (by omega) rfl (Nat.le_of_ble_eq_true rfl) rfl dX4_read_113 (fun r113 h113 p113 => ?_)
            obtain ⟨p113e, nR, nfr3⟩ := p113
            subst p113e
            have fr__7 : ∀ q : Nat, ((q < a ∨ a + 5 < q) ∧ (q < r ∨ r + 2 < q)) → h113 q = h q := fun q hq => (nfr3 q (by omega)).trans (fr__6 q hq)
            have hA4 : RDA G h113 a t r lm n (x1.1, x1.2.1, x1.2.2.1, x1.2.2.2.1, 1, 700, x1.2.2.2.2.2.2) := ⟨nR, hA8.2.1.keep (fun q g1 g2 => nfr3 q (by omega)), hA8.2.2.1, hA8.2.2.2.1.keep (fun q g1 g2 => nfr3 q (by omega)), hA8.2.2.2.2.1, hA8.2.2.2.2.2.1, by dsimp only; omega, by dsimp only; omega⟩
            have hz4 : h113 a = some (ob 4 [vi 1, .ref (a + 1), vi 700, vi (lm : Int), vi (x1.1.2.1 : Int), vi (x1.1.2.2.1 : Int), vi (x1.1.1 : Int), vl (x1.1.2.2.2), .ref (a + 5), .ref t, .ref r]) := hA4.1.1
            refine g_pop k rfl dX4_read_116 ?_
            refine g_aload_n k rfl dX4_read_117 ?_
            refine g_get k 4 0 (C := RX4) (T := TX4) (N := 11) fl_X4_30 rfl wi_X4 (by decide) rfl hz4 rfl dX4_read_118 ?_
            refine g_if_ne k (tgt := 128) (by omega) dX4_read_121 (by decide) (fun c121_2 => ?_) (fun c121_2 => ?_)
            · skip
              refine g_iconst k dX4_read_128 ?_
              refine g_aload_n k rfl dX4_read_129 ?_
              refine g_get k 4 2 (C := RX4) (T := TX4) (N := 11) fl_X4_74 rfl wi_X4 (by decide) rfl hz4 rfl dX4_read_130 ?_
              refine g_isub k dX4_read_133 ?_
              rw [← hQQ]
              refine g_ireti k rfl dX4_read_134 ?_
              have eb : rdB T n wd NM fp V = (c1, (x1.1, x1.2.1, x1.2.2.1, x1.2.2.2.1, 1, 700, x1.2.2.2.2.2.2)) := by
                unfold rdB
                rw [ey]
                dsimp only
                rw [if_pos (by omega)]
              rw [eb, ← elm]
              exact ⟨by rw [rdZ]; dsimp only; rw [if_neg (by omega)]; try rfl, hA4, fun q g1 g2 => fr__7 q ⟨g1, g2⟩⟩
            · skip
              refine g_iload_n k rfl dX4_read_124 ?_
              refine g_goto k (tgt := 134) dX4_read_125 (by decide) ?_
              rw [← hQQ]
              refine g_ireti k rfl dX4_read_134 ?_
              exfalso; omega
      refine g_iload_n k rfl dX4_read_40 ?_
      refine g_sipush k rfl dX4_read_41 ?_
      refine g_icmp_ge k (tgt := 88) (by omega) (by omega) dX4_read_44 (by decide) (fun c44 => ?_) (fun c44 => ?_)
      · skip
        exact K88 x c h40 ha__5 hn__5 ht__5 fr__5 hA1 (by rw [← hrd, show kf = 0 by omega]; rfl)
      · skip
        have hkq := hA1.2.2.2.2.1
        have hk1 := hkq.1
        refine g_aload_n k rfl dX4_read_47 ?_
        refine g_get k 4 6 (C := RX4) (T := TX4) (N := 11) fl_X4_57 rfl wi_X4 (by decide) rfl ha__5 rfl dX4_read_48 ?_
        refine g_if_eq k (tgt := 88) (by omega) dX4_read_51 (by decide) (fun c51 => ?_) (fun c51 => ?_)
        · skip
          exact K88 x c h40 ha__5 hn__5 ht__5 fr__5 hA1 (by rw [← hrd, show kf = kf - 1 + 1 by omega, rdL, if_pos (by omega)])
        · skip
          refine g_aload_n k rfl dX4_read_54 ?_
          refine g_cVi k 4 (As := []) v_X4_isItemRow rfl rfl ha__5 ml_X4_60 (c_X4_isItemRow hA1.1 (fun q => hA1.2.2.2.2.1.2.2.2 (by omega)) (by omega)) (by omega) (by omega) rfl (Nat.le_of_ble_eq_true rfl) rfl dX4_read_55 (fun r55 h55 p55 => ?_)
          obtain ⟨eh55, p55⟩ := p55
          have eh55 := eh55.symm; subst eh55
          have q55 := p55
          have q55r := q55.r
          refine g_if_eq k (tgt := 71) (by omega) dX4_read_58 (by decide) (fun c58 => ?_) (fun c58 => ?_)
          · skip
            refine g_aload_n k rfl dX4_read_71 ?_
            refine g_cVi k 4 (As := []) v_X4_readFact rfl rfl ha__5 ml_X4_67 (c_X4_readFact hA1 hT1 hn7 hlm hBy hLa) (by omega) (by omega) rfl (Nat.le_of_ble_eq_true rfl) rfl dX4_read_72 (fun r72 h72 p72 => ?_)
            obtain ⟨pz, nRD, nfr9c⟩ := p72
            have nfr9 : ∀ q : Nat, ((q < a ∨ a + 5 < q) ∧ (q < r ∨ r + 2 < q)) → h72 q = h40 q := fun q hq => nfr9c q hq.1 hq.2
            have fr__8 : ∀ q : Nat, ((q < a ∨ a + 5 < q) ∧ (q < r ∨ r + 2 < q)) → h72 q = h q := fun q hq => (nfr9 q (by omega)).trans (fr__5 q hq)
            have pzr := pz.r
            have eR : rRow T n lm x = rFact T n lm x := by rw [rRow, if_neg (fun z => q55.f (by omega) ⟨by omega, z.2⟩)]
            rw [← eR] at pz nRD
            have hT2 := hT1.keep (h' := h72) (fun q g1 => nfr9 q (by omega))
            refine g_if_eq k (tgt := 88) (by omega) dX4_read_75 (by decide) (fun c75 => ?_) (fun c75 => ?_)
            · skip
              exact K88 ((rRow T n lm x).2) c h72 nRD.1.1 nRD.1.2 hT2.1 fr__8 nRD (by rw [← hrd, show kf = kf - 1 + 1 by omega, rdL, if_neg (by omega), if_neg (pz.f (by omega))])
            · skip
              refine g_iinc k (lv2 := [(0, .ref a), (1, vi ((c : Int) + 1))]) rfl (by decide) rfl rfl dX4_read_78 ?_
              refine g_aload_n k rfl dX4_read_81 ?_
              refine g_cVv k 4 (As := []) v_X4_step rfl rfl nRD.1.1 ml_X4_54 (c_X4_step (a := a) (nt0 := (rRow T n lm x).2.1.2.2.1) (lm0 := lm) nRD.1 hT2 hn7 hBy d1 hlm nRD.2.2.2.2.1.2.2.1) (by omega) (by omega) rfl (Nat.le_of_ble_eq_true rfl) rfl dX4_read_82 (fun h82 p82 => ?_)
              obtain ⟨sR, nfr2⟩ := p82
              have fr__9 : ∀ q : Nat, ((q < a ∨ a + 5 < q) ∧ (q < r ∨ r + 2 < q)) → h82 q = h q := fun q hq => (nfr2 q (by omega)).trans (fr__8 q hq)
              have hA3 : RDA G h82 a t r lm n (nxT T n lm (rRow T n lm x).2.1, (rRow T n lm x).2.2) := ⟨sR, nRD.2.1.keep (fun q g1 g2 => nfr2 q (by omega)), nRD.2.2.1, nRD.2.2.2.1.keep (fun q g1 g2 => nfr2 q (by omega)), stF_ok hlm nRD.2.2.2.2.1.2.2.1, nRD.2.2.2.2.2⟩
              have hT3 := hT2.keep (h' := h82) (fun q g1 => nfr2 q (by omega))
              refine g_goto k (tgt := 40) dX4_read_85 (by decide) ?_
              exact ih40 (nxT T n lm (rRow T n lm x).2.1, (rRow T n lm x).2.2) (c + 1) (kf - 1) h82 hA3.1.1 hA3.1.2 hT3.1 fr__9 hA3 hT3 (by omega) (by rw [← hrd, show kf = kf - 1 + 1 by omega, rdL, if_neg (by omega), if_pos (pz.t (by omega))]; rfl) (by omega)
          · skip
            refine g_aload_n k rfl dX4_read_61 ?_
            refine g_cVi k 4 (As := []) v_X4_readItem rfl rfl ha__5 ml_X4_64 (c_X4_readItem hA1 hT1 hn7 hlm hBy hLa) (by omega) (by omega) rfl (Nat.le_of_ble_eq_true rfl) rfl dX4_read_62 (fun r62 h62 p62 => ?_)
            obtain ⟨pz, nRD, nfr9⟩ := p62
            have fr__10 : ∀ q : Nat, ((q < a ∨ a + 5 < q) ∧ (q < r ∨ r + 2 < q)) → h62 q = h q := fun q hq => (nfr9 q (by omega)).trans (fr__5 q hq)
            have pzr := pz.r
            have eR : rRow T n lm x = rItem T n lm x := by rw [rRow, if_pos ⟨by have := (q55.t (by omega)).1; omega, (q55.t (by omega)).2⟩]
            rw [← eR] at pz nRD
            have hT2 := hT1.keep (h' := h62) (fun q g1 => nfr9 q (by omega))
            refine g_if_eq k (tgt := 88) (by omega) dX4_read_65 (by decide) (fun c65 => ?_) (fun c65 => ?_)
            · skip
              exact K88 ((rRow T n lm x).2) c h62 nRD.1.1 nRD.1.2 hT2.1 fr__10 nRD (by rw [← hrd, show kf = kf - 1 + 1 by omega, rdL, if_neg (by omega), if_neg (pz.f (by omega))])
            · skip
              refine g_goto k (tgt := 78) dX4_read_68 (by decide) ?_
              refine g_iinc k (lv2 := [(0, .ref a), (1, vi ((c : Int) + 1))]) rfl (by decide) rfl rfl dX4_read_78 ?_
              refine g_aload_n k rfl dX4_read_81 ?_
              refine g_cVv k 4 (As := []) v_X4_step rfl rfl nRD.1.1 ml_X4_54 (c_X4_step (a := a) (nt0 := (rRow T n lm x).2.1.2.2.1) (lm0 := lm) nRD.1 hT2 hn7 hBy d1 hlm nRD.2.2.2.2.1.2.2.1) (by omega) (by omega) rfl (Nat.le_of_ble_eq_true rfl) rfl dX4_read_82 (fun h82_1 p82_1 => ?_)
              obtain ⟨sR, nfr2⟩ := p82_1
              have fr__11 : ∀ q : Nat, ((q < a ∨ a + 5 < q) ∧ (q < r ∨ r + 2 < q)) → h82_1 q = h q := fun q hq => (nfr2 q (by omega)).trans (fr__10 q hq)
              have hA3 : RDA G h82_1 a t r lm n (nxT T n lm (rRow T n lm x).2.1, (rRow T n lm x).2.2) := ⟨sR, nRD.2.1.keep (fun q g1 g2 => nfr2 q (by omega)), nRD.2.2.1, nRD.2.2.2.1.keep (fun q g1 g2 => nfr2 q (by omega)), stF_ok hlm nRD.2.2.2.2.1.2.2.1, nRD.2.2.2.2.2⟩
              have hT3 := hT2.keep (h' := h82_1) (fun q g1 => nfr2 q (by omega))
              refine g_goto k (tgt := 40) dX4_read_85 (by decide) ?_
              exact ih40 (nxT T n lm (rRow T n lm x).2.1, (rRow T n lm x).2.2) (c + 1) (kf - 1) h82_1 hA3.1.1 hA3.1.2 hT3.1 fr__11 hA3 hT3 (by omega) (by rw [← hrd, show kf = kf - 1 + 1 by omega, rdL, if_neg (by omega), if_pos (pz.t (by omega))]; rfl) (by omega)
  exact K40 _ ((stF T n lm 0 wd, 0, [], NM, 0, fp, V) : RS) 0 700 h37 ha__4 hn__4 ht__4 fr__4 hAx hTx rfl rfl (Nat.lt_succ_self _)

