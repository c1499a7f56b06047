/-! the constructors of the class and of the model -/
theorem FZ_A {G : Gx} {h : Hp} {a : Nat} {K F S : Nat → Int} (hc : FC G h a 0 0 K F S) : FA G h a 0 [] := ⟨K, F, S, hc.1, hc.2.1, hc.2.2.1, hc.2.2.2, fun i hi => absurd hi (Nat.not_lt_zero i)⟩
def V0 : RV := (0, 0, 0, 0, fun _ => 0)
theorem GA_V0 {G : Gx} {h : Hp} {a : Nat} {R S : Nat → Int} (hc : GA G h a 0 0 0 0 R S) : GV G h a V0 := ⟨R, S, hc, fun i hi => absurd hi (by show ¬ ((i : Int) + 1 < 0); omega)⟩
theorem GA.keep {G : Gx} {h h' : Hp} {a : Nat} {n c x y : Int} {R S : Nat → Int} (hc : GA G h a n c x y R S) (fr : ∀ q : Nat, a ≤ q → q ≤ a + 2 → h' q = h q) : GA G h' a n c x y R S := ⟨(fr _ (by omega) (by omega)).trans hc.1, (fr _ (by omega) (by omega)).trans hc.2.1, (fr _ (by omega) (by omega)).trans hc.2.2⟩
set_option maxHeartbeats 1000000 in
set_option maxRecDepth 100000 in
theorem n_X9 {G : Gx} {h : Hp} {a : Nat} (ho : h a = some (ob 9 [.null, .null, .null, .null, .null, .null, .null, .null, .null, .null, .null, .null, .null, .null, vi 0])) : Con G yX9_init cX9_init 2 none 3 140 4441 [.ref a] h (a + 1) (PV (fun h' => SF G h' a 0 [] [] (fun _ => none) V0 0 (fun _ => 0) 0 ∧ (∀ q : Nat, q < a → h' q = h q))) := by
  refine Con.of v_X9_init.2.2.2.2.1 (Nat.le_of_ble_eq_true rfl) (lv := [(0, .ref a)]) rfl (fun X k => ?_)
  generalize hQQ : QM G X (a + 1) 140 4441 _ = QQ
  have fr0 : ∀ q : Nat, q < a → h q = h q := fun _ _ => rfl
  refine g_aload_n k rfl dX9_init_0 ?_
  refine g_objInit k ml_X9_3 (by omega) (Nat.le_of_ble_eq_true rfl) dX9_init_1 ?_
  refine g_aload_n k rfl dX9_init_4 ?_
  refine g_new k 0 (C := RX0) (T := TX0) (N := 5) (fs := [vi 0, vi 0, .null, .null, .null]) kl_X9_9 ins_X0 ini_X0 rfl wi_X0 tyX0 tyX0_ok dv_X0 (by omega) (by omega) dX9_init_5 (fun h5 eh5 => ?_)
  have ho_ : h5 a = some (ob 9 [.null, .null, .null, .null, .null, .null, .null, .null, .null, .null, .null, .null, .null, .null, vi 0]) := (congrFun eh5 _).trans ((hup_n (by first | exact nea (by decide) | exact nea0 (by decide) | exact nea1 (by decide) | omega)).trans ho)
  have fr_ : ∀ q : Nat, q < a → h5 q = h q := fun q hq => (congrFun eh5 q).trans ((hup_n (by omega)).trans (fr0 q hq))
  have n5_ : h5 (a + 1) = some (ob 0 [vi 0, vi 0, .null, .null, .null]) := (congrFun eh5 _).trans hup_s
  clear ho fr0 eh5
  refine g_nx (c2 := 1) (s2 := 5) (n2 := a + 2) (by omega) (by omega) (by omega) ?_
  refine g_dup k rfl dX9_init_8 ?_
  refine g_cN k (b := a + 1) (As := []) v_X0_init (fun U hU => nl_X9_11 hU) (n_X0 n5_) (by omega) (by omega) rfl (Nat.le_of_ble_eq_true rfl) rfl dX9_init_9 (fun h9 p9 => ?_)
  obtain ⟨p9, f9⟩ := p9
  have ho__1 : h9 a = some (ob 9 [.null, .null, .null, .null, .null, .null, .null, .null, .null, .null, .null, .null, .null, .null, vi 0]) := (f9 _ (by omega)).trans ho_
  have fr__1 : ∀ q : Nat, q < a → h9 q = h q := fun q hq => (f9 q (by omega)).trans (fr_ q hq)
  clear ho_ n5_ fr_
  refine g_nx (c2 := 4) (s2 := 89) (n2 := a + 5) (by omega) (by omega) (by omega) ?_
  have m1_ : ∀ q : Nat, a + 1 ≤ q ∧ q ≤ a + 4 → h9 q = h9 q := fun _ _ => rfl
  refine g_putF k 9 0 (C := RX9) (T := TX9) (N := 15) fl_X9_12 rfl wi_X9 tyX9 tyX9_ok nmX9 (by decide) rfl rfl rfl rfl ho__1 (Nat.le_of_ble_eq_true rfl) (fs2 := [.ref (a + 1), .null, .null, .null, .null, .null, .null, .null, .null, .null, .null, .null, .null, .null, vi 0]) rfl rfl rfl rfl dX9_init_12 (fun h12 eh12 => ?_)
  have ho__2 : h12 a = some (ob 9 [.ref (a + 1), .null, .null, .null, .null, .null, .null, .null, .null, .null, .null, .null, .null, .null, vi 0]) := (congrFun eh12 _).trans hup_s
  have fr__2 : ∀ q : Nat, q < a → h12 q = h q := fun q hq => (congrFun eh12 q).trans ((hup_n (by omega)).trans (fr__1 q hq))
  have m1__1 : ∀ q : Nat, a + 1 ≤ q ∧ q ≤ a + 4 → h12 q = h9 q := fun q hq => (congrFun eh12 q).trans ((hup_n (by omega)).trans (m1_ q hq))
  clear ho__1 fr__1 m1_ eh12
  refine g_aload_n k rfl dX9_init_15 ?_
  refine g_new k 0 (C := RX0) (T := TX0) (N := 5) (fs := [vi 0, vi 0, .null, .null, .null]) kl_X9_9 ins_X0 ini_X0 rfl wi_X0 tyX0 tyX0_ok dv_X0 (by omega) (by omega) dX9_init_16 (fun h16 eh16 => ?_)
  have ho__3 : h16 a = some (ob 9 [.ref (a + 1), .null, .null, .null, .null, .null, .null, .null, .null, .null, .null, .null, .null, .null, vi 0]) := (congrFun eh16 _).trans ((hup_n (by first | exact nea (by decide) | exact nea0 (by decide) | exact nea1 (by decide) | omega)).trans ho__2)
  have fr__3 : ∀ q : Nat, q < a → h16 q = h q := fun q hq => (congrFun eh16 q).trans ((hup_n (by omega)).trans (fr__2 q hq))
  have m1__2 : ∀ q : Nat, a + 1 ≤ q ∧ q ≤ a + 4 → h16 q = h9 q := fun q hq => (congrFun eh16 q).trans ((hup_n (by omega)).trans (m1__1 q hq))
  have n16_ : h16 (a + 5) = some (ob 0 [vi 0, vi 0, .null, .null, .null]) := (congrFun eh16 _).trans hup_s
  clear ho__2 fr__2 m1__1 eh16
  refine g_nx (c2 := 5) (s2 := 94) (n2 := a + 6) (by omega) (by omega) (by omega) ?_
  refine g_dup k rfl dX9_init_19 ?_
  refine g_cN k (b := a + 5) (As := []) v_X0_init (fun U hU => nl_X9_11 hU) (n_X0 n16_) (by omega) (by omega) rfl (Nat.le_of_ble_eq_true rfl) rfl dX9_init_20 (fun h20 p20 => ?_)
  obtain ⟨p20, f20⟩ := p20
  have ho__4 : h20 a = some (ob 9 [.ref (a + 1), .null, .null, .null, .null, .null, .null, .null, .null, .null, .null, .null, .null, .null, vi 0]) := (f20 _ (by omega)).trans ho__3
  have fr__4 : ∀ q : Nat, q < a → h20 q = h q := fun q hq => (f20 q (by omega)).trans (fr__3 q hq)
  have m1__3 : ∀ q : Nat, a + 1 ≤ q ∧ q ≤ a + 4 → h20 q = h9 q := fun q hq => (f20 q (by omega)).trans (m1__2 q hq)
  clear ho__3 n16_ fr__3 m1__2
  refine g_nx (c2 := 8) (s2 := 178) (n2 := a + 9) (by omega) (by omega) (by omega) ?_
  have m2_ : ∀ q : Nat, a + 5 ≤ q ∧ q ≤ a + 8 → h20 q = h20 q := fun _ _ => rfl
  refine g_putF k 9 1 (C := RX9) (T := TX9) (N := 15) fl_X9_16 rfl wi_X9 tyX9 tyX9_ok nmX9 (by decide) rfl rfl rfl rfl ho__4 (Nat.le_of_ble_eq_true rfl) (fs2 := [.ref (a + 1), .ref (a + 5), .null, .null, .null, .null, .null, .null, .null, .null, .null, .null, .null, .null, vi 0]) rfl rfl rfl rfl dX9_init_23 (fun h23 eh23 => ?_)
  have ho__5 : h23 a = some (ob 9 [.ref (a + 1), .ref (a + 5), .null, .null, .null, .null, .null, .null, .null, .null, .null, .null, .null, .null, vi 0]) := (congrFun eh23 _).trans hup_s
  have fr__5 : ∀ q : Nat, q < a → h23 q = h q := fun q hq => (congrFun eh23 q).trans ((hup_n (by omega)).trans (fr__4 q hq))
  have m1__4 : ∀ q : Nat, a + 1 ≤ q ∧ q ≤ a + 4 → h23 q = h9 q := fun q hq => (congrFun eh23 q).trans ((hup_n (by omega)).trans (m1__3 q hq))
  have m2__1 : ∀ q : Nat, a + 5 ≤ q ∧ q ≤ a + 8 → h23 q = h20 q := fun q hq => (congrFun eh23 q).trans ((hup_n (by omega)).trans (m2_ q hq))
  clear ho__4 fr__4 m1__3 m2_ eh23
  refine g_aload_n k rfl dX9_init_26 ?_
  refine g_new k 2 (C := RX2) (T := TX2) (N := 2) (fs := [vi 0, .null]) kl_X9_19 ins_X2 ini_X2 rfl wi_X2 tyX2 tyX2_ok dv_X2 (by omega) (by omega) dX9_init_27 (fun h27 eh27 => ?_)
  have ho__6 : h27 a = some (ob 9 [.ref (a + 1), .ref (a + 5), .null, .null, .null, .null, .null, .null, .null, .null, .null, .null, .null, .null, vi 0]) := (congrFun eh27 _).trans ((hup_n (by first | exact nea (by decide) | exact nea0 (by decide) | exact nea1 (by decide) | omega)).trans ho__5)
  have fr__6 : ∀ q : Nat, q < a → h27 q = h q := fun q hq => (congrFun eh27 q).trans ((hup_n (by omega)).trans (fr__5 q hq))
  have m1__5 : ∀ q : Nat, a + 1 ≤ q ∧ q ≤ a + 4 → h27 q = h9 q := fun q hq => (congrFun eh27 q).trans ((hup_n (by omega)).trans (m1__4 q hq))
  have m2__2 : ∀ q : Nat, a + 5 ≤ q ∧ q ≤ a + 8 → h27 q = h20 q := fun q hq => (congrFun eh27 q).trans ((hup_n (by omega)).trans (m2__1 q hq))
  have n27_ : h27 (a + 9) = some (ob 2 [vi 0, .null]) := (congrFun eh27 _).trans hup_s
  clear ho__5 fr__5 m1__4 m2__1 eh27
  refine g_nx (c2 := 9) (s2 := 180) (n2 := a + 10) (by omega) (by omega) (by omega) ?_
  refine g_dup k rfl dX9_init_30 ?_
  refine g_cI k (b := a + 9) (As := []) v_X2_init ml_X9_21 (n_X2 n27_) (by omega) (by omega) rfl (Nat.le_of_ble_eq_true rfl) rfl dX9_init_31 (fun h31 p31 => ?_)
  obtain ⟨p31, f31⟩ := p31
  have ho__7 : h31 a = some (ob 9 [.ref (a + 1), .ref (a + 5), .null, .null, .null, .null, .null, .null, .null, .null, .null, .null, .null, .null, vi 0]) := (f31 _ (by omega)).trans ho__6
  have fr__7 : ∀ q : Nat, q < a → h31 q = h q := fun q hq => (f31 q (by omega)).trans (fr__6 q hq)
  have m1__6 : ∀ q : Nat, a + 1 ≤ q ∧ q ≤ a + 4 → h31 q = h9 q := fun q hq => (f31 q (by omega)).trans (m1__5 q hq)
  have m2__3 : ∀ q : Nat, a + 5 ≤ q ∧ q ≤ a + 8 → h31 q = h20 q := fun q hq => (f31 q (by omega)).trans (m2__2 q hq)
  clear ho__6 n27_ fr__6 m1__5 m2__2
  refine g_nx (c2 := 42) (s2 := 900) (n2 := a + 43) (by omega) (by omega) (by omega) ?_
  have pp_ : ∀ q : Nat, a + 9 ≤ q ∧ q ≤ a + 42 → h31 q = h31 q := fun _ _ => rfl
  refine g_putF k 9 2 (C := RX9) (T := TX9) (N := 15) fl_X9_22 rfl wi_X9 tyX9 tyX9_ok nmX9 (by decide) rfl rfl rfl rfl ho__7 (Nat.le_of_ble_eq_true rfl) (fs2 := [.ref (a + 1), .ref (a + 5), .ref (a + 9), .null, .null, .null, .null, .null, .null, .null, .null, .null, .null, .null, vi 0]) rfl rfl rfl rfl dX9_init_34 (fun h34 eh34 => ?_)
  have ho__8 : h34 a = some (ob 9 [.ref (a + 1), .ref (a + 5), .ref (a + 9), .null, .null, .null, .null, .null, .null, .null, .null, .null, .null, .null, vi 0]) := (congrFun eh34 _).trans hup_s
  have fr__8 : ∀ q : Nat, q < a → h34 q = h q := fun q hq => (congrFun eh34 q).trans ((hup_n (by omega)).trans (fr__7 q hq))
  have m1__7 : ∀ q : Nat, a + 1 ≤ q ∧ q ≤ a + 4 → h34 q = h9 q := fun q hq => (congrFun eh34 q).trans ((hup_n (by omega)).trans (m1__6 q hq))
  have m2__4 : ∀ q : Nat, a + 5 ≤ q ∧ q ≤ a + 8 → h34 q = h20 q := fun q hq => (congrFun eh34 q).trans ((hup_n (by omega)).trans (m2__3 q hq))
  have pp__1 : ∀ q : Nat, a + 9 ≤ q ∧ q ≤ a + 42 → h34 q = h31 q := fun q hq => (congrFun eh34 q).trans ((hup_n (by omega)).trans (pp_ q hq))
  clear ho__7 fr__7 m1__6 m2__3 pp_ eh34
  refine g_aload_n k rfl dX9_init_37 ?_
  refine g_iconst k dX9_init_38 ?_
  refine g_newq k (n := 2) (by decide) (by decide) kl_X9_9 (by omega) (by omega) dX9_init_39 (fun h39 eh39 => ?_)
  have ho__9 : h39 a = some (ob 9 [.ref (a + 1), .ref (a + 5), .ref (a + 9), .null, .null, .null, .null, .null, .null, .null, .null, .null, .null, .null, vi 0]) := (congrFun eh39 _).trans ((hup_n (by first | exact nea (by decide) | exact nea0 (by decide) | exact nea1 (by decide) | omega)).trans ho__8)
  have fr__9 : ∀ q : Nat, q < a → h39 q = h q := fun q hq => (congrFun eh39 q).trans ((hup_n (by omega)).trans (fr__8 q hq))
  have m1__8 : ∀ q : Nat, a + 1 ≤ q ∧ q ≤ a + 4 → h39 q = h9 q := fun q hq => (congrFun eh39 q).trans ((hup_n (by omega)).trans (m1__7 q hq))
  have m2__5 : ∀ q : Nat, a + 5 ≤ q ∧ q ≤ a + 8 → h39 q = h20 q := fun q hq => (congrFun eh39 q).trans ((hup_n (by omega)).trans (m2__4 q hq))
  have pp__2 : ∀ q : Nat, a + 9 ≤ q ∧ q ≤ a + 42 → h39 q = h31 q := fun q hq => (congrFun eh39 q).trans ((hup_n (by omega)).trans (pp__1 q hq))
  have r_ : h39 (a + 43) = some (aq G 2 (fun _ => (none : Option Nat))) := (congrFun eh39 _).trans hup_s
  clear ho__8 fr__8 m1__7 m2__4 pp__1 eh39
  refine g_nx (c2 := 43) (s2 := 902) (n2 := a + 44) (by omega) (by omega) (by omega) ?_
  refine g_putF k 9 3 (C := RX9) (T := TX9) (N := 15) fl_X9_26 rfl wi_X9 tyX9 tyX9_ok nmX9 (by decide) rfl rfl rfl rfl ho__9 (Nat.le_of_ble_eq_true rfl) (fs2 := [.ref (a + 1), .ref (a + 5), .ref (a + 9), .ref (a + 43), .null, .null, .null, .null, .null, .null, .null, .null, .null, .null, vi 0]) rfl rfl rfl rfl dX9_init_42 (fun h42 eh42 => ?_)
  have ho__10 : h42 a = some (ob 9 [.ref (a + 1), .ref (a + 5), .ref (a + 9), .ref (a + 43), .null, .null, .null, .null, .null, .null, .null, .null, .null, .null, vi 0]) := (congrFun eh42 _).trans hup_s
  have r__1 : h42 (a + 43) = some (aq G 2 (fun _ => (none : Option Nat))) := (congrFun eh42 _).trans ((hup_n (by first | exact nea (by decide) | exact nea0 (by decide) | exact nea1 (by decide) | omega)).trans r_)
  have fr__10 : ∀ q : Nat, q < a → h42 q = h q := fun q hq => (congrFun eh42 q).trans ((hup_n (by omega)).trans (fr__9 q hq))
  have m1__9 : ∀ q : Nat, a + 1 ≤ q ∧ q ≤ a + 4 → h42 q = h9 q := fun q hq => (congrFun eh42 q).trans ((hup_n (by omega)).trans (m1__8 q hq))
  have m2__6 : ∀ q : Nat, a + 5 ≤ q ∧ q ≤ a + 8 → h42 q = h20 q := fun q hq => (congrFun eh42 q).trans ((hup_n (by omega)).trans (m2__5 q hq))
  have pp__3 : ∀ q : Nat, a + 9 ≤ q ∧ q ≤ a + 42 → h42 q = h31 q := fun q hq => (congrFun eh42 q).trans ((hup_n (by omega)).trans (pp__2 q hq))
  clear ho__9 r_ fr__9 m1__8 m2__5 pp__2 eh42
  refine g_iconst k dX9_init_45 ?_
  refine g_istore_n k (lv2 := [(0, .ref a), (1, vi 0)]) (by decide) rfl rfl dX9_init_46 ?_
  have K47 : ∀ (nz : Nat) (i : Nat) (f : Nat → Option Nat) (h47 : Hp) (ho__11 : h47 a = some (ob 9 [.ref (a + 1), .ref (a + 5), .ref (a + 9), .ref (a + 43), .null, .null, .null, .null, .null, .null, .null, .null, .null, .null, vi 0])) (r__2 : h47 (a + 43) = some (aq G 2 f)) (fr__11 : ∀ q : Nat, q < a → h47 q = h q) (hi : i ≤ 2) (hF0 : FC G h47 (a + 1) 0 0 (fun _ => (0 : Int)) (fun _ => (0 : Int)) (fun _ => (0 : Int))) (hM0 : FC G h47 (a + 5) 0 0 (fun _ => (0 : Int)) (fun _ => (0 : Int)) (fun _ => (0 : Int))) (hP0 : PA G h47 (a + 9) []) (hf : ∀ j, j < i → f j = some (a + 44 + 4 * j) ∧ FC G h47 (a + 44 + 4 * j) 0 0 (fun _ => (0 : Int)) (fun _ => (0 : Int)) (fun _ => (0 : Int))) (hmz : 2 - i < nz), Go G X 2 QQ (43 + 4 * i) (902 + 89 * i) (a + 44 + 4 * i) 47 [(0, .ref a), (1, vi (i : Int))] [] h47 := by
    intro nz
    induction nz with
    | zero => intro i f h47 ho__11 r__2 fr__11 hi hF0 hM0 hP0 hf hmz; exact absurd hmz (Nat.not_lt_zero _)
    | succ nz ih47 =>
      intro i f h47 ho__11 r__2 fr__11 hi hF0 hM0 hP0 hf hmz
      refine g_iload_n k rfl dX9_init_47 ?_
      refine g_iconst k dX9_init_48 ?_
      refine g_icmp_ge k (tgt := 71) (by omega) (by omega) dX9_init_49 (by decide) (fun c49 => ?_) (fun c49 => ?_)
      · skip
        obtain rfl : i = 2 := by omega
        refine g_nx (c2 := 51) (s2 := 1080) (n2 := a + 52) (by omega) (by omega) (by omega) ?_
        refine g_aload_n k rfl dX9_init_71 ?_
        refine g_iconst k dX9_init_72 ?_
        refine g_newz k (n := 2) (by decide) (by decide) ac_boolean (by omega) (by omega) dX9_init_73 (fun h73 eh73 => ?_)
        have ho__12 : h73 a = some (ob 9 [.ref (a + 1), .ref (a + 5), .ref (a + 9), .ref (a + 43), .null, .null, .null, .null, .null, .null, .null, .null, .null, .null, vi 0]) := (congrFun eh73 _).trans ((hup_n (by first | exact nea (by decide) | exact nea0 (by decide) | exact nea1 (by decide) | omega)).trans ho__11)
        have r__3 : h73 (a + 43) = some (aq G 2 f) := (congrFun eh73 _).trans ((hup_n (by first | exact nea (by decide) | exact nea0 (by decide) | exact nea1 (by decide) | omega)).trans r__2)
        have fr__12 : ∀ q : Nat, q < a → h73 q = h q := fun q hq => (congrFun eh73 q).trans ((hup_n (by omega)).trans (fr__11 q hq))
        have fl_ : ∀ q : Nat, a < q ∧ q ≠ a + 43 ∧ q < a + 44 + 4 * 2 → h73 q = h47 q := fun q hq => (congrFun eh73 q).trans ((hup_n (by omega)).trans ((fun _ _ => rfl) q hq))
        have n73_ : h73 (a + 52) = some (az G 2 (fun _ => (0 : Int))) := (congrFun eh73 _).trans hup_s
        clear ho__11 r__2 fr__11 eh73
        refine g_nx (c2 := 52) (s2 := 1082) (n2 := a + 53) (by omega) (by omega) (by omega) ?_
        refine g_putF k 9 4 (C := RX9) (T := TX9) (N := 15) fl_X9_30 rfl wi_X9 tyX9 tyX9_ok nmX9 (by decide) rfl rfl rfl rfl ho__12 (Nat.le_of_ble_eq_true rfl) (fs2 := [.ref (a + 1), .ref (a + 5), .ref (a + 9), .ref (a + 43), .ref (a + 52), .null, .null, .null, .null, .null, .null, .null, .null, .null, vi 0]) rfl rfl rfl rfl dX9_init_75 (fun h75 eh75 => ?_)
        have ho__13 : h75 a = some (ob 9 [.ref (a + 1), .ref (a + 5), .ref (a + 9), .ref (a + 43), .ref (a + 52), .null, .null, .null, .null, .null, .null, .null, .null, .null, vi 0]) := (congrFun eh75 _).trans hup_s
        have r__4 : h75 (a + 43) = some (aq G 2 f) := (congrFun eh75 _).trans ((hup_n (by first | exact nea (by decide) | exact nea0 (by decide) | exact nea1 (by decide) | omega)).trans r__3)
        have n73__1 : h75 (a + 52) = some (az G 2 (fun _ => (0 : Int))) := (congrFun eh75 _).trans ((hup_n (by first | exact nea (by decide) | exact nea0 (by decide) | exact nea1 (by decide) | omega)).trans n73_)
        have fr__13 : ∀ q : Nat, q < a → h75 q = h q := fun q hq => (congrFun eh75 q).trans ((hup_n (by omega)).trans (fr__12 q hq))
        have fl__1 : ∀ q : Nat, a < q ∧ q ≠ a + 43 ∧ q < a + 44 + 4 * 2 → h75 q = h47 q := fun q hq => (congrFun eh75 q).trans ((hup_n (by omega)).trans (fl_ q hq))
        clear ho__12 r__3 n73_ fr__12 fl_ eh75
        refine g_aload_n k rfl dX9_init_78 ?_
        refine g_new k 5 (C := RX5) (T := TX5) (N := 6) (fs := [vi 0, vi 0, vi 0, vi 0, .null, .null]) kl_X9_34 ins_X5 ini_X5 rfl wi_X5 tyX5 tyX5_ok dv_X5 (by omega) (by omega) dX9_init_79 (fun h79 eh79 => ?_)
        have ho__14 : h79 a = some (ob 9 [.ref (a + 1), .ref (a + 5), .ref (a + 9), .ref (a + 43), .ref (a + 52), .null, .null, .null, .null, .null, .null, .null, .null, .null, vi 0]) := (congrFun eh79 _).trans ((hup_n (by first | exact nea (by decide) | exact nea0 (by decide) | exact nea1 (by decide) | omega)).trans ho__13)
        have r__5 : h79 (a + 43) = some (aq G 2 f) := (congrFun eh79 _).trans ((hup_n (by first | exact nea (by decide) | exact nea0 (by decide) | exact nea1 (by decide) | omega)).trans r__4)
        have n73__2 : h79 (a + 52) = some (az G 2 (fun _ => (0 : Int))) := (congrFun eh79 _).trans ((hup_n (by first | exact nea (by decide) | exact nea0 (by decide) | exact nea1 (by decide) | omega)).trans n73__1)
        have fr__14 : ∀ q : Nat, q < a → h79 q = h q := fun q hq => (congrFun eh79 q).trans ((hup_n (by omega)).trans (fr__13 q hq))
        have fl__2 : ∀ q : Nat, a < q ∧ q ≠ a + 43 ∧ q < a + 44 + 4 * 2 → h79 q = h47 q := fun q hq => (congrFun eh79 q).trans ((hup_n (by omega)).trans (fl__1 q hq))
        have n79_ : h79 (a + 53) = some (ob 5 [vi 0, vi 0, vi 0, vi 0, .null, .null]) := (congrFun eh79 _).trans hup_s
        clear ho__13 r__4 n73__1 fr__13 fl__1 eh79
        refine g_nx (c2 := 53) (s2 := 1088) (n2 := a + 54) (by omega) (by omega) (by omega) ?_
        refine g_dup k rfl dX9_init_82 ?_
        refine g_cN k (b := a + 53) (As := []) v_X5_init (fun U hU => nl_X9_36 hU) (n_X5 n79_) (by omega) (by omega) rfl (Nat.le_of_ble_eq_true rfl) rfl dX9_init_83 (fun h83 p83 => ?_)
        obtain ⟨p83, f83⟩ := p83
        have ho__15 : h83 a = some (ob 9 [.ref (a + 1), .ref (a + 5), .ref (a + 9), .ref (a + 43), .ref (a + 52), .null, .null, .null, .null, .null, .null, .null, .null, .null, vi 0]) := (f83 _ (by omega)).trans ho__14
        have r__6 : h83 (a + 43) = some (aq G 2 f) := (f83 _ (by omega)).trans r__5
        have n73__3 : h83 (a + 52) = some (az G 2 (fun _ => (0 : Int))) := (f83 _ (by omega)).trans n73__2
        have fr__15 : ∀ q : Nat, q < a → h83 q = h q := fun q hq => (f83 q (by omega)).trans (fr__14 q hq)
        have fl__3 : ∀ q : Nat, a < q ∧ q ≠ a + 43 ∧ q < a + 44 + 4 * 2 → h83 q = h47 q := fun q hq => (f83 q (by omega)).trans (fl__2 q hq)
        clear ho__14 r__5 n73__2 n79_ fr__14 fl__2
        refine g_nx (c2 := 55) (s2 := 1160) (n2 := a + 56) (by omega) (by omega) (by omega) ?_
        have g1_ : ∀ q : Nat, a + 53 ≤ q ∧ q ≤ a + 55 → h83 q = h83 q := fun _ _ => rfl
        refine g_putF k 9 5 (C := RX9) (T := TX9) (N := 15) fl_X9_37 rfl wi_X9 tyX9 tyX9_ok nmX9 (by decide) rfl rfl rfl rfl ho__15 (Nat.le_of_ble_eq_true rfl) (fs2 := [.ref (a + 1), .ref (a + 5), .ref (a + 9), .ref (a + 43), .ref (a + 52), .ref (a + 53), .null, .null, .null, .null, .null, .null, .null, .null, vi 0]) rfl rfl rfl rfl dX9_init_86 (fun h86 eh86 => ?_)
        have ho__16 : h86 a = some (ob 9 [.ref (a + 1), .ref (a + 5), .ref (a + 9), .ref (a + 43), .ref (a + 52), .ref (a + 53), .null, .null, .null, .null, .null, .null, .null, .null, vi 0]) := (congrFun eh86 _).trans hup_s
        have r__7 : h86 (a + 43) = some (aq G 2 f) := (congrFun eh86 _).trans ((hup_n (by first | exact nea (by decide) | exact nea0 (by decide) | exact nea1 (by decide) | omega)).trans r__6)
        have n73__4 : h86 (a + 52) = some (az G 2 (fun _ => (0 : Int))) := (congrFun eh86 _).trans ((hup_n (by first | exact nea (by decide) | exact nea0 (by decide) | exact nea1 (by decide) | omega)).trans n73__3)
        have fr__16 : ∀ q : Nat, q < a → h86 q = h q := fun q hq => (congrFun eh86 q).trans ((hup_n (by omega)).trans (fr__15 q hq))
        have fl__4 : ∀ q : Nat, a < q ∧ q ≠ a + 43 ∧ q < a + 44 + 4 * 2 → h86 q = h47 q := fun q hq => (congrFun eh86 q).trans ((hup_n (by omega)).trans (fl__3 q hq))
        have g1__1 : ∀ q : Nat, a + 53 ≤ q ∧ q ≤ a + 55 → h86 q = h83 q := fun q hq => (congrFun eh86 q).trans ((hup_n (by omega)).trans (g1_ q hq))
        clear ho__15 r__6 n73__3 fr__15 fl__3 g1_ eh86
        refine g_aload_n k rfl dX9_init_89 ?_
        refine g_new k 5 (C := RX5) (T := TX5) (N := 6) (fs := [vi 0, vi 0, vi 0, vi 0, .null, .null]) kl_X9_34 ins_X5 ini_X5 rfl wi_X5 tyX5 tyX5_ok dv_X5 (by omega) (by omega) dX9_init_90 (fun h90 eh90 => ?_)
        have ho__17 : h90 a = some (ob 9 [.ref (a + 1), .ref (a + 5), .ref (a + 9), .ref (a + 43), .ref (a + 52), .ref (a + 53), .null, .null, .null, .null, .null, .null, .null, .null, vi 0]) := (congrFun eh90 _).trans ((hup_n (by first | exact nea (by decide) | exact nea0 (by decide) | exact nea1 (by decide) | omega)).trans ho__16)
        have r__8 : h90 (a + 43) = some (aq G 2 f) := (congrFun eh90 _).trans ((hup_n (by first | exact nea (by decide) | exact nea0 (by decide) | exact nea1 (by decide) | omega)).trans r__7)
        have n73__5 : h90 (a + 52) = some (az G 2 (fun _ => (0 : Int))) := (congrFun eh90 _).trans ((hup_n (by first | exact nea (by decide) | exact nea0 (by decide) | exact nea1 (by decide) | omega)).trans n73__4)
        have fr__17 : ∀ q : Nat, q < a → h90 q = h q := fun q hq => (congrFun eh90 q).trans ((hup_n (by omega)).trans (fr__16 q hq))
        have fl__5 : ∀ q : Nat, a < q ∧ q ≠ a + 43 ∧ q < a + 44 + 4 * 2 → h90 q = h47 q := fun q hq => (congrFun eh90 q).trans ((hup_n (by omega)).trans (fl__4 q hq))
        have g1__2 : ∀ q : Nat, a + 53 ≤ q ∧ q ≤ a + 55 → h90 q = h83 q := fun q hq => (congrFun eh90 q).trans ((hup_n (by omega)).trans (g1__1 q hq))
        have n90_ : h90 (a + 56) = some (ob 5 [vi 0, vi 0, vi 0, vi 0, .null, .null]) := (congrFun eh90 _).trans hup_s
        clear ho__16 r__7 n73__4 fr__16 fl__4 g1__1 eh90
        refine g_nx (c2 := 56) (s2 := 1166) (n2 := a + 57) (by omega) (by omega) (by omega) ?_
        refine g_dup k rfl dX9_init_93 ?_
        refine g_cN k (b := a + 56) (As := []) v_X5_init (fun U hU => nl_X9_36 hU) (n_X5 n90_) (by omega) (by omega) rfl (Nat.le_of_ble_eq_true rfl) rfl dX9_init_94 (fun h94 p94 => ?_)
        obtain ⟨p94, f94⟩ := p94
        have ho__18 : h94 a = some (ob 9 [.ref (a + 1), .ref (a + 5), .ref (a + 9), .ref (a + 43), .ref (a + 52), .ref (a + 53), .null, .null, .null, .null, .null, .null, .null, .null, vi 0]) := (f94 _ (by omega)).trans ho__17
        have r__9 : h94 (a + 43) = some (aq G 2 f) := (f94 _ (by omega)).trans r__8
        have n73__6 : h94 (a + 52) = some (az G 2 (fun _ => (0 : Int))) := (f94 _ (by omega)).trans n73__5
        have fr__18 : ∀ q : Nat, q < a → h94 q = h q := fun q hq => (f94 q (by omega)).trans (fr__17 q hq)
        have fl__6 : ∀ q : Nat, a < q ∧ q ≠ a + 43 ∧ q < a + 44 + 4 * 2 → h94 q = h47 q := fun q hq => (f94 q (by omega)).trans (fl__5 q hq)
        have g1__3 : ∀ q : Nat, a + 53 ≤ q ∧ q ≤ a + 55 → h94 q = h83 q := fun q hq => (f94 q (by omega)).trans (g1__2 q hq)
        clear ho__17 r__8 n73__5 n90_ fr__17 fl__5 g1__2
        refine g_nx (c2 := 58) (s2 := 1238) (n2 := a + 59) (by omega) (by omega) (by omega) ?_
        have g2_ : ∀ q : Nat, a + 56 ≤ q ∧ q ≤ a + 58 → h94 q = h94 q := fun _ _ => rfl
        refine g_putF k 9 6 (C := RX9) (T := TX9) (N := 15) fl_X9_41 rfl wi_X9 tyX9 tyX9_ok nmX9 (by decide) rfl rfl rfl rfl ho__18 (Nat.le_of_ble_eq_true rfl) (fs2 := [.ref (a + 1), .ref (a + 5), .ref (a + 9), .ref (a + 43), .ref (a + 52), .ref (a + 53), .ref (a + 56), .null, .null, .null, .null, .null, .null, .null, vi 0]) rfl rfl rfl rfl dX9_init_97 (fun h97 eh97 => ?_)
        have ho__19 : h97 a = some (ob 9 [.ref (a + 1), .ref (a + 5), .ref (a + 9), .ref (a + 43), .ref (a + 52), .ref (a + 53), .ref (a + 56), .null, .null, .null, .null, .null, .null, .null, vi 0]) := (congrFun eh97 _).trans hup_s
        have r__10 : h97 (a + 43) = some (aq G 2 f) := (congrFun eh97 _).trans ((hup_n (by first | exact nea (by decide) | exact nea0 (by decide) | exact nea1 (by decide) | omega)).trans r__9)
        have n73__7 : h97 (a + 52) = some (az G 2 (fun _ => (0 : Int))) := (congrFun eh97 _).trans ((hup_n (by first | exact nea (by decide) | exact nea0 (by decide) | exact nea1 (by decide) | omega)).trans n73__6)
        have fr__19 : ∀ q : Nat, q < a → h97 q = h q := fun q hq => (congrFun eh97 q).trans ((hup_n (by omega)).trans (fr__18 q hq))
        have fl__7 : ∀ q : Nat, a < q ∧ q ≠ a + 43 ∧ q < a + 44 + 4 * 2 → h97 q = h47 q := fun q hq => (congrFun eh97 q).trans ((hup_n (by omega)).trans (fl__6 q hq))
        have g1__4 : ∀ q : Nat, a + 53 ≤ q ∧ q ≤ a + 55 → h97 q = h83 q := fun q hq => (congrFun eh97 q).trans ((hup_n (by omega)).trans (g1__3 q hq))
        have g2__1 : ∀ q : Nat, a + 56 ≤ q ∧ q ≤ a + 58 → h97 q = h94 q := fun q hq => (congrFun eh97 q).trans ((hup_n (by omega)).trans (g2_ q hq))
        clear ho__18 r__9 n73__6 fr__18 fl__6 g1__3 g2_ eh97
        refine g_aload_n k rfl dX9_init_100 ?_
        refine g_new k 3 (C := RX3) (T := TX3) (N := 2) (fs := [vi 0, .null]) kl_X9_44 ins_X3 ini_X3 rfl wi_X3 tyX3 tyX3_ok dv_X3 (by omega) (by omega) dX9_init_101 (fun h101 eh101 => ?_)
        have ho__20 : h101 a = some (ob 9 [.ref (a + 1), .ref (a + 5), .ref (a + 9), .ref (a + 43), .ref (a + 52), .ref (a + 53), .ref (a + 56), .null, .null, .null, .null, .null, .null, .null, vi 0]) := (congrFun eh101 _).trans ((hup_n (by first | exact nea (by decide) | exact nea0 (by decide) | exact nea1 (by decide) | omega)).trans ho__19)
        have r__11 : h101 (a + 43) = some (aq G 2 f) := (congrFun eh101 _).trans ((hup_n (by first | exact nea (by decide) | exact nea0 (by decide) | exact nea1 (by decide) | omega)).trans r__10)
        have n73__8 : h101 (a + 52) = some (az G 2 (fun _ => (0 : Int))) := (congrFun eh101 _).trans ((hup_n (by first | exact nea (by decide) | exact nea0 (by decide) | exact nea1 (by decide) | omega)).trans n73__7)
        have fr__20 : ∀ q : Nat, q < a → h101 q = h q := fun q hq => (congrFun eh101 q).trans ((hup_n (by omega)).trans (fr__19 q hq))
        have fl__8 : ∀ q : Nat, a < q ∧ q ≠ a + 43 ∧ q < a + 44 + 4 * 2 → h101 q = h47 q := fun q hq => (congrFun eh101 q).trans ((hup_n (by omega)).trans (fl__7 q hq))
        have g1__5 : ∀ q : Nat, a + 53 ≤ q ∧ q ≤ a + 55 → h101 q = h83 q := fun q hq => (congrFun eh101 q).trans ((hup_n (by omega)).trans (g1__4 q hq))
        have g2__2 : ∀ q : Nat, a + 56 ≤ q ∧ q ≤ a + 58 → h101 q = h94 q := fun q hq => (congrFun eh101 q).trans ((hup_n (by omega)).trans (g2__1 q hq))
        have n101_ : h101 (a + 59) = some (ob 3 [vi 0, .null]) := (congrFun eh101 _).trans hup_s
        clear ho__19 r__10 n73__7 fr__19 fl__7 g1__4 g2__1 eh101
        refine g_nx (c2 := 59) (s2 := 1240) (n2 := a + 60) (by omega) (by omega) (by omega) ?_
        refine g_dup k rfl dX9_init_104 ?_
        refine g_cN k (b := a + 59) (As := []) v_X3_init (fun U hU => nl_X9_46 hU) (n_X3 n101_) (by omega) (by omega) rfl (Nat.le_of_ble_eq_true rfl) rfl dX9_init_105 (fun h105 p105 => ?_)
        obtain ⟨p105, f105⟩ := p105
        have ho__21 : h105 a = some (ob 9 [.ref (a + 1), .ref (a + 5), .ref (a + 9), .ref (a + 43), .ref (a + 52), .ref (a + 53), .ref (a + 56), .null, .null, .null, .null, .null, .null, .null, vi 0]) := (f105 _ (by omega)).trans ho__20
        have r__12 : h105 (a + 43) = some (aq G 2 f) := (f105 _ (by omega)).trans r__11
        have n73__9 : h105 (a + 52) = some (az G 2 (fun _ => (0 : Int))) := (f105 _ (by omega)).trans n73__8
        have fr__21 : ∀ q : Nat, q < a → h105 q = h q := fun q hq => (f105 q (by omega)).trans (fr__20 q hq)
        have fl__9 : ∀ q : Nat, a < q ∧ q ≠ a + 43 ∧ q < a + 44 + 4 * 2 → h105 q = h47 q := fun q hq => (f105 q (by omega)).trans (fl__8 q hq)
        have g1__6 : ∀ q : Nat, a + 53 ≤ q ∧ q ≤ a + 55 → h105 q = h83 q := fun q hq => (f105 q (by omega)).trans (g1__5 q hq)
        have g2__3 : ∀ q : Nat, a + 56 ≤ q ∧ q ≤ a + 58 → h105 q = h94 q := fun q hq => (f105 q (by omega)).trans (g2__2 q hq)
        clear ho__20 r__11 n73__8 n101_ fr__20 fl__8 g1__5 g2__2
        refine g_nx (c2 := 60) (s2 := 1304) (n2 := a + 61) (by omega) (by omega) (by omega) ?_
        have rr_ : ∀ q : Nat, a + 59 ≤ q ∧ q ≤ a + 60 → h105 q = h105 q := fun _ _ => rfl
        refine g_putF k 9 7 (C := RX9) (T := TX9) (N := 15) fl_X9_47 rfl wi_X9 tyX9 tyX9_ok nmX9 (by decide) rfl rfl rfl rfl ho__21 (Nat.le_of_ble_eq_true rfl) (fs2 := [.ref (a + 1), .ref (a + 5), .ref (a + 9), .ref (a + 43), .ref (a + 52), .ref (a + 53), .ref (a + 56), .ref (a + 59), .null, .null, .null, .null, .null, .null, vi 0]) rfl rfl rfl rfl dX9_init_108 (fun h108 eh108 => ?_)
        have ho__22 : h108 a = some (ob 9 [.ref (a + 1), .ref (a + 5), .ref (a + 9), .ref (a + 43), .ref (a + 52), .ref (a + 53), .ref (a + 56), .ref (a + 59), .null, .null, .null, .null, .null, .null, vi 0]) := (congrFun eh108 _).trans hup_s
        have r__13 : h108 (a + 43) = some (aq G 2 f) := (congrFun eh108 _).trans ((hup_n (by first | exact nea (by decide) | exact nea0 (by decide) | exact nea1 (by decide) | omega)).trans r__12)
        have n73__10 : h108 (a + 52) = some (az G 2 (fun _ => (0 : Int))) := (congrFun eh108 _).trans ((hup_n (by first | exact nea (by decide) | exact nea0 (by decide) | exact nea1 (by decide) | omega)).trans n73__9)
        have fr__22 : ∀ q : Nat, q < a → h108 q = h q := fun q hq => (congrFun eh108 q).trans ((hup_n (by omega)).trans (fr__21 q hq))
        have fl__10 : ∀ q : Nat, a < q ∧ q ≠ a + 43 ∧ q < a + 44 + 4 * 2 → h108 q = h47 q := fun q hq => (congrFun eh108 q).trans ((hup_n (by omega)).trans (fl__9 q hq))
        have g1__7 : ∀ q : Nat, a + 53 ≤ q ∧ q ≤ a + 55 → h108 q = h83 q := fun q hq => (congrFun eh108 q).trans ((hup_n (by omega)).trans (g1__6 q hq))
        have g2__4 : ∀ q : Nat, a + 56 ≤ q ∧ q ≤ a + 58 → h108 q = h94 q := fun q hq => (congrFun eh108 q).trans ((hup_n (by omega)).trans (g2__3 q hq))
        have rr__1 : ∀ q : Nat, a + 59 ≤ q ∧ q ≤ a + 60 → h108 q = h105 q := fun q hq => (congrFun eh108 q).trans ((hup_n (by omega)).trans (rr_ q hq))
        clear ho__21 r__12 n73__9 fr__21 fl__9 g1__6 g2__3 rr_ eh108
        refine g_aload_n k rfl dX9_init_111 ?_
        refine g_new k 1 (C := RX1) (T := TX1) (N := 8) (fs := [vi 0, vi 0, .null, .null, vi 0, .null, .null, .null]) kl_X9_51 ins_X1 ini_X1 rfl wi_X1 tyX1 tyX1_ok dv_X1 (by omega) (by omega) dX9_init_112 (fun h112 eh112 => ?_)
        have ho__23 : h112 a = some (ob 9 [.ref (a + 1), .ref (a + 5), .ref (a + 9), .ref (a + 43), .ref (a + 52), .ref (a + 53), .ref (a + 56), .ref (a + 59), .null, .null, .null, .null, .null, .null, vi 0]) := (congrFun eh112 _).trans ((hup_n (by first | exact nea (by decide) | exact nea0 (by decide) | exact nea1 (by decide) | omega)).trans ho__22)
        have r__14 : h112 (a + 43) = some (aq G 2 f) := (congrFun eh112 _).trans ((hup_n (by first | exact nea (by decide) | exact nea0 (by decide) | exact nea1 (by decide) | omega)).trans r__13)
        have n73__11 : h112 (a + 52) = some (az G 2 (fun _ => (0 : Int))) := (congrFun eh112 _).trans ((hup_n (by first | exact nea (by decide) | exact nea0 (by decide) | exact nea1 (by decide) | omega)).trans n73__10)
        have fr__23 : ∀ q : Nat, q < a → h112 q = h q := fun q hq => (congrFun eh112 q).trans ((hup_n (by omega)).trans (fr__22 q hq))
        have fl__11 : ∀ q : Nat, a < q ∧ q ≠ a + 43 ∧ q < a + 44 + 4 * 2 → h112 q = h47 q := fun q hq => (congrFun eh112 q).trans ((hup_n (by omega)).trans (fl__10 q hq))
        have g1__8 : ∀ q : Nat, a + 53 ≤ q ∧ q ≤ a + 55 → h112 q = h83 q := fun q hq => (congrFun eh112 q).trans ((hup_n (by omega)).trans (g1__7 q hq))
        have g2__5 : ∀ q : Nat, a + 56 ≤ q ∧ q ≤ a + 58 → h112 q = h94 q := fun q hq => (congrFun eh112 q).trans ((hup_n (by omega)).trans (g2__4 q hq))
        have rr__2 : ∀ q : Nat, a + 59 ≤ q ∧ q ≤ a + 60 → h112 q = h105 q := fun q hq => (congrFun eh112 q).trans ((hup_n (by omega)).trans (rr__1 q hq))
        have n112_ : h112 (a + 61) = some (ob 1 [vi 0, vi 0, .null, .null, vi 0, .null, .null, .null]) := (congrFun eh112 _).trans hup_s
        clear ho__22 r__13 n73__10 fr__22 fl__10 g1__7 g2__4 rr__1 eh112
        refine g_nx (c2 := 61) (s2 := 1312) (n2 := a + 62) (by omega) (by omega) (by omega) ?_
        refine g_dup k rfl dX9_init_115 ?_
        refine g_cN k (b := a + 61) (As := []) v_X1_init (fun U hU => nl_X9_53 hU) (n_X1 n112_) (by omega) (by omega) rfl (Nat.le_of_ble_eq_true rfl) rfl dX9_init_116 (fun h116 p116 => ?_)
        obtain ⟨p116, f116⟩ := p116
        have ho__24 : h116 a = some (ob 9 [.ref (a + 1), .ref (a + 5), .ref (a + 9), .ref (a + 43), .ref (a + 52), .ref (a + 53), .ref (a + 56), .ref (a + 59), .null, .null, .null, .null, .null, .null, vi 0]) := (f116 _ (by omega)).trans ho__23
        have r__15 : h116 (a + 43) = some (aq G 2 f) := (f116 _ (by omega)).trans r__14
        have n73__12 : h116 (a + 52) = some (az G 2 (fun _ => (0 : Int))) := (f116 _ (by omega)).trans n73__11
        have fr__24 : ∀ q : Nat, q < a → h116 q = h q := fun q hq => (f116 q (by omega)).trans (fr__23 q hq)
        have fl__12 : ∀ q : Nat, a < q ∧ q ≠ a + 43 ∧ q < a + 44 + 4 * 2 → h116 q = h47 q := fun q hq => (f116 q (by omega)).trans (fl__11 q hq)
        have g1__9 : ∀ q : Nat, a + 53 ≤ q ∧ q ≤ a + 55 → h116 q = h83 q := fun q hq => (f116 q (by omega)).trans (g1__8 q hq)
        have g2__6 : ∀ q : Nat, a + 56 ≤ q ∧ q ≤ a + 58 → h116 q = h94 q := fun q hq => (f116 q (by omega)).trans (g2__5 q hq)
        have rr__3 : ∀ q : Nat, a + 59 ≤ q ∧ q ≤ a + 60 → h116 q = h105 q := fun q hq => (f116 q (by omega)).trans (rr__2 q hq)
        clear ho__23 r__14 n73__11 n112_ fr__23 fl__11 g1__8 g2__5 rr__2
        refine g_nx (c2 := 67) (s2 := 1410) (n2 := a + 68) (by omega) (by omega) (by omega) ?_
        have oo_ : ∀ q : Nat, a + 61 ≤ q ∧ q ≤ a + 67 → h116 q = h116 q := fun _ _ => rfl
        refine g_putF k 9 8 (C := RX9) (T := TX9) (N := 15) fl_X9_54 rfl wi_X9 tyX9 tyX9_ok nmX9 (by decide) rfl rfl rfl rfl ho__24 (Nat.le_of_ble_eq_true rfl) (fs2 := [.ref (a + 1), .ref (a + 5), .ref (a + 9), .ref (a + 43), .ref (a + 52), .ref (a + 53), .ref (a + 56), .ref (a + 59), .ref (a + 61), .null, .null, .null, .null, .null, vi 0]) rfl rfl rfl rfl dX9_init_119 (fun h119 eh119 => ?_)
        have ho__25 : h119 a = some (ob 9 [.ref (a + 1), .ref (a + 5), .ref (a + 9), .ref (a + 43), .ref (a + 52), .ref (a + 53), .ref (a + 56), .ref (a + 59), .ref (a + 61), .null, .null, .null, .null, .null, vi 0]) := (congrFun eh119 _).trans hup_s
        have r__16 : h119 (a + 43) = some (aq G 2 f) := (congrFun eh119 _).trans ((hup_n (by first | exact nea (by decide) | exact nea0 (by decide) | exact nea1 (by decide) | omega)).trans r__15)
        have n73__13 : h119 (a + 52) = some (az G 2 (fun _ => (0 : Int))) := (congrFun eh119 _).trans ((hup_n (by first | exact nea (by decide) | exact nea0 (by decide) | exact nea1 (by decide) | omega)).trans n73__12)
        have fr__25 : ∀ q : Nat, q < a → h119 q = h q := fun q hq => (congrFun eh119 q).trans ((hup_n (by omega)).trans (fr__24 q hq))
        have fl__13 : ∀ q : Nat, a < q ∧ q ≠ a + 43 ∧ q < a + 44 + 4 * 2 → h119 q = h47 q := fun q hq => (congrFun eh119 q).trans ((hup_n (by omega)).trans (fl__12 q hq))
        have g1__10 : ∀ q : Nat, a + 53 ≤ q ∧ q ≤ a + 55 → h119 q = h83 q := fun q hq => (congrFun eh119 q).trans ((hup_n (by omega)).trans (g1__9 q hq))
        have g2__7 : ∀ q : Nat, a + 56 ≤ q ∧ q ≤ a + 58 → h119 q = h94 q := fun q hq => (congrFun eh119 q).trans ((hup_n (by omega)).trans (g2__6 q hq))
        have rr__4 : ∀ q : Nat, a + 59 ≤ q ∧ q ≤ a + 60 → h119 q = h105 q := fun q hq => (congrFun eh119 q).trans ((hup_n (by omega)).trans (rr__3 q hq))
        have oo__1 : ∀ q : Nat, a + 61 ≤ q ∧ q ≤ a + 67 → h119 q = h116 q := fun q hq => (congrFun eh119 q).trans ((hup_n (by omega)).trans (oo_ q hq))
        clear ho__24 r__15 n73__12 fr__24 fl__12 g1__9 g2__6 rr__3 oo_ eh119
        refine g_aload_n k rfl dX9_init_122 ?_
        refine g_new k 8 (C := RX8) (T := TX8) (N := 4) (fs := [vi 0, .null, .null, .null]) kl_X9_58 ins_X8 ini_X8 rfl wi_X8 tyX8 tyX8_ok dv_X8 (by omega) (by omega) dX9_init_123 (fun h123 eh123 => ?_)
        have ho__26 : h123 a = some (ob 9 [.ref (a + 1), .ref (a + 5), .ref (a + 9), .ref (a + 43), .ref (a + 52), .ref (a + 53), .ref (a + 56), .ref (a + 59), .ref (a + 61), .null, .null, .null, .null, .null, vi 0]) := (congrFun eh123 _).trans ((hup_n (by first | exact nea (by decide) | exact nea0 (by decide) | exact nea1 (by decide) | omega)).trans ho__25)
        have r__17 : h123 (a + 43) = some (aq G 2 f) := (congrFun eh123 _).trans ((hup_n (by first | exact nea (by decide) | exact nea0 (by decide) | exact nea1 (by decide) | omega)).trans r__16)
        have n73__14 : h123 (a + 52) = some (az G 2 (fun _ => (0 : Int))) := (congrFun eh123 _).trans ((hup_n (by first | exact nea (by decide) | exact nea0 (by decide) | exact nea1 (by decide) | omega)).trans n73__13)
        have fr__26 : ∀ q : Nat, q < a → h123 q = h q := fun q hq => (congrFun eh123 q).trans ((hup_n (by omega)).trans (fr__25 q hq))
        have fl__14 : ∀ q : Nat, a < q ∧ q ≠ a + 43 ∧ q < a + 44 + 4 * 2 → h123 q = h47 q := fun q hq => (congrFun eh123 q).trans ((hup_n (by omega)).trans (fl__13 q hq))
        have g1__11 : ∀ q : Nat, a + 53 ≤ q ∧ q ≤ a + 55 → h123 q = h83 q := fun q hq => (congrFun eh123 q).trans ((hup_n (by omega)).trans (g1__10 q hq))
        have g2__8 : ∀ q : Nat, a + 56 ≤ q ∧ q ≤ a + 58 → h123 q = h94 q := fun q hq => (congrFun eh123 q).trans ((hup_n (by omega)).trans (g2__7 q hq))
        have rr__5 : ∀ q : Nat, a + 59 ≤ q ∧ q ≤ a + 60 → h123 q = h105 q := fun q hq => (congrFun eh123 q).trans ((hup_n (by omega)).trans (rr__4 q hq))
        have oo__2 : ∀ q : Nat, a + 61 ≤ q ∧ q ≤ a + 67 → h123 q = h116 q := fun q hq => (congrFun eh123 q).trans ((hup_n (by omega)).trans (oo__1 q hq))
        have n123_ : h123 (a + 68) = some (ob 8 [vi 0, .null, .null, .null]) := (congrFun eh123 _).trans hup_s
        clear ho__25 r__16 n73__13 fr__25 fl__13 g1__10 g2__7 rr__4 oo__1 eh123
        refine g_nx (c2 := 68) (s2 := 1414) (n2 := a + 69) (by omega) (by omega) (by omega) ?_
        refine g_dup k rfl dX9_init_126 ?_
        refine g_cI k (b := a + 68) (As := []) v_X8_init ml_X9_60 (n_X8 n123_) (by omega) (by omega) rfl (Nat.le_of_ble_eq_true rfl) rfl dX9_init_127 (fun h127 p127 => ?_)
        obtain ⟨p127, f127⟩ := p127
        have ho__27 : h127 a = some (ob 9 [.ref (a + 1), .ref (a + 5), .ref (a + 9), .ref (a + 43), .ref (a + 52), .ref (a + 53), .ref (a + 56), .ref (a + 59), .ref (a + 61), .null, .null, .null, .null, .null, vi 0]) := (f127 _ (by omega)).trans ho__26
        have r__18 : h127 (a + 43) = some (aq G 2 f) := (f127 _ (by omega)).trans r__17
        have n73__15 : h127 (a + 52) = some (az G 2 (fun _ => (0 : Int))) := (f127 _ (by omega)).trans n73__14
        have fr__27 : ∀ q : Nat, q < a → h127 q = h q := fun q hq => (f127 q (by omega)).trans (fr__26 q hq)
        have fl__15 : ∀ q : Nat, a < q ∧ q ≠ a + 43 ∧ q < a + 44 + 4 * 2 → h127 q = h47 q := fun q hq => (f127 q (by omega)).trans (fl__14 q hq)
        have g1__12 : ∀ q : Nat, a + 53 ≤ q ∧ q ≤ a + 55 → h127 q = h83 q := fun q hq => (f127 q (by omega)).trans (g1__11 q hq)
        have g2__9 : ∀ q : Nat, a + 56 ≤ q ∧ q ≤ a + 58 → h127 q = h94 q := fun q hq => (f127 q (by omega)).trans (g2__8 q hq)
        have rr__6 : ∀ q : Nat, a + 59 ≤ q ∧ q ≤ a + 60 → h127 q = h105 q := fun q hq => (f127 q (by omega)).trans (rr__5 q hq)
        have oo__3 : ∀ q : Nat, a + 61 ≤ q ∧ q ≤ a + 67 → h127 q = h116 q := fun q hq => (f127 q (by omega)).trans (oo__2 q hq)
        clear ho__26 r__17 n73__14 n123_ fr__26 fl__14 g1__11 g2__8 rr__5 oo__2
        refine g_nx (c2 := 129) (s2 := 3413) (n2 := a + 130) (by omega) (by omega) (by omega) ?_
        have ww_ : ∀ q : Nat, a + 68 ≤ q ∧ q ≤ a + 129 → h127 q = h127 q := fun _ _ => rfl
        refine g_putF k 9 9 (C := RX9) (T := TX9) (N := 15) fl_X9_61 rfl wi_X9 tyX9 tyX9_ok nmX9 (by decide) rfl rfl rfl rfl ho__27 (Nat.le_of_ble_eq_true rfl) (fs2 := [.ref (a + 1), .ref (a + 5), .ref (a + 9), .ref (a + 43), .ref (a + 52), .ref (a + 53), .ref (a + 56), .ref (a + 59), .ref (a + 61), .ref (a + 68), .null, .null, .null, .null, vi 0]) rfl rfl rfl rfl dX9_init_130 (fun h130 eh130 => ?_)
        have ho__28 : h130 a = some (ob 9 [.ref (a + 1), .ref (a + 5), .ref (a + 9), .ref (a + 43), .ref (a + 52), .ref (a + 53), .ref (a + 56), .ref (a + 59), .ref (a + 61), .ref (a + 68), .null, .null, .null, .null, vi 0]) := (congrFun eh130 _).trans hup_s
        have r__19 : h130 (a + 43) = some (aq G 2 f) := (congrFun eh130 _).trans ((hup_n (by first | exact nea (by decide) | exact nea0 (by decide) | exact nea1 (by decide) | omega)).trans r__18)
        have n73__16 : h130 (a + 52) = some (az G 2 (fun _ => (0 : Int))) := (congrFun eh130 _).trans ((hup_n (by first | exact nea (by decide) | exact nea0 (by decide) | exact nea1 (by decide) | omega)).trans n73__15)
        have fr__28 : ∀ q : Nat, q < a → h130 q = h q := fun q hq => (congrFun eh130 q).trans ((hup_n (by omega)).trans (fr__27 q hq))
        have fl__16 : ∀ q : Nat, a < q ∧ q ≠ a + 43 ∧ q < a + 44 + 4 * 2 → h130 q = h47 q := fun q hq => (congrFun eh130 q).trans ((hup_n (by omega)).trans (fl__15 q hq))
        have g1__13 : ∀ q : Nat, a + 53 ≤ q ∧ q ≤ a + 55 → h130 q = h83 q := fun q hq => (congrFun eh130 q).trans ((hup_n (by omega)).trans (g1__12 q hq))
        have g2__10 : ∀ q : Nat, a + 56 ≤ q ∧ q ≤ a + 58 → h130 q = h94 q := fun q hq => (congrFun eh130 q).trans ((hup_n (by omega)).trans (g2__9 q hq))
        have rr__7 : ∀ q : Nat, a + 59 ≤ q ∧ q ≤ a + 60 → h130 q = h105 q := fun q hq => (congrFun eh130 q).trans ((hup_n (by omega)).trans (rr__6 q hq))
        have oo__4 : ∀ q : Nat, a + 61 ≤ q ∧ q ≤ a + 67 → h130 q = h116 q := fun q hq => (congrFun eh130 q).trans ((hup_n (by omega)).trans (oo__3 q hq))
        have ww__1 : ∀ q : Nat, a + 68 ≤ q ∧ q ≤ a + 129 → h130 q = h127 q := fun q hq => (congrFun eh130 q).trans ((hup_n (by omega)).trans (ww_ q hq))
        clear ho__27 r__18 n73__15 fr__27 fl__15 g1__12 g2__9 rr__6 oo__3 ww_ eh130
        refine g_aload_n k rfl dX9_init_133 ?_
        refine g_new k 6 (C := RX6) (T := TX6) (N := 1) (fs := [.null]) kl_X9_65 ins_X6 ini_X6 rfl wi_X6 tyX6 tyX6_ok dv_X6 (by omega) (by omega) dX9_init_134 (fun h134 eh134 => ?_)
        have ho__29 : h134 a = some (ob 9 [.ref (a + 1), .ref (a + 5), .ref (a + 9), .ref (a + 43), .ref (a + 52), .ref (a + 53), .ref (a + 56), .ref (a + 59), .ref (a + 61), .ref (a + 68), .null, .null, .null, .null, vi 0]) := (congrFun eh134 _).trans ((hup_n (by first | exact nea (by decide) | exact nea0 (by decide) | exact nea1 (by decide) | omega)).trans ho__28)
        have r__20 : h134 (a + 43) = some (aq G 2 f) := (congrFun eh134 _).trans ((hup_n (by first | exact nea (by decide) | exact nea0 (by decide) | exact nea1 (by decide) | omega)).trans r__19)
        have n73__17 : h134 (a + 52) = some (az G 2 (fun _ => (0 : Int))) := (congrFun eh134 _).trans ((hup_n (by first | exact nea (by decide) | exact nea0 (by decide) | exact nea1 (by decide) | omega)).trans n73__16)
        have fr__29 : ∀ q : Nat, q < a → h134 q = h q := fun q hq => (congrFun eh134 q).trans ((hup_n (by omega)).trans (fr__28 q hq))
        have fl__17 : ∀ q : Nat, a < q ∧ q ≠ a + 43 ∧ q < a + 44 + 4 * 2 → h134 q = h47 q := fun q hq => (congrFun eh134 q).trans ((hup_n (by omega)).trans (fl__16 q hq))
        have g1__14 : ∀ q : Nat, a + 53 ≤ q ∧ q ≤ a + 55 → h134 q = h83 q := fun q hq => (congrFun eh134 q).trans ((hup_n (by omega)).trans (g1__13 q hq))
        have g2__11 : ∀ q : Nat, a + 56 ≤ q ∧ q ≤ a + 58 → h134 q = h94 q := fun q hq => (congrFun eh134 q).trans ((hup_n (by omega)).trans (g2__10 q hq))
        have rr__8 : ∀ q : Nat, a + 59 ≤ q ∧ q ≤ a + 60 → h134 q = h105 q := fun q hq => (congrFun eh134 q).trans ((hup_n (by omega)).trans (rr__7 q hq))
        have oo__5 : ∀ q : Nat, a + 61 ≤ q ∧ q ≤ a + 67 → h134 q = h116 q := fun q hq => (congrFun eh134 q).trans ((hup_n (by omega)).trans (oo__4 q hq))
        have ww__2 : ∀ q : Nat, a + 68 ≤ q ∧ q ≤ a + 129 → h134 q = h127 q := fun q hq => (congrFun eh134 q).trans ((hup_n (by omega)).trans (ww__1 q hq))
        have n134_ : h134 (a + 130) = some (ob 6 [.null]) := (congrFun eh134 _).trans hup_s
        clear ho__28 r__19 n73__16 fr__28 fl__16 g1__13 g2__10 rr__7 oo__4 ww__1 eh134
        refine g_nx (c2 := 130) (s2 := 3414) (n2 := a + 131) (by omega) (by omega) (by omega) ?_
        refine g_dup k rfl dX9_init_137 ?_
        refine g_cN k (b := a + 130) (As := []) v_X6_init (fun U hU => nl_X9_67 hU) (n_X6 n134_) (by omega) (by omega) rfl (Nat.le_of_ble_eq_true rfl) rfl dX9_init_138 (fun h138 p138 => ?_)
        obtain ⟨p138, f138⟩ := p138
        have ho__30 : h138 a = some (ob 9 [.ref (a + 1), .ref (a + 5), .ref (a + 9), .ref (a + 43), .ref (a + 52), .ref (a + 53), .ref (a + 56), .ref (a + 59), .ref (a + 61), .ref (a + 68), .null, .null, .null, .null, vi 0]) := (f138 _ (by omega)).trans ho__29
        have r__21 : h138 (a + 43) = some (aq G 2 f) := (f138 _ (by omega)).trans r__20
        have n73__18 : h138 (a + 52) = some (az G 2 (fun _ => (0 : Int))) := (f138 _ (by omega)).trans n73__17
        have fr__30 : ∀ q : Nat, q < a → h138 q = h q := fun q hq => (f138 q (by omega)).trans (fr__29 q hq)
        have fl__18 : ∀ q : Nat, a < q ∧ q ≠ a + 43 ∧ q < a + 44 + 4 * 2 → h138 q = h47 q := fun q hq => (f138 q (by omega)).trans (fl__17 q hq)
        have g1__15 : ∀ q : Nat, a + 53 ≤ q ∧ q ≤ a + 55 → h138 q = h83 q := fun q hq => (f138 q (by omega)).trans (g1__14 q hq)
        have g2__12 : ∀ q : Nat, a + 56 ≤ q ∧ q ≤ a + 58 → h138 q = h94 q := fun q hq => (f138 q (by omega)).trans (g2__11 q hq)
        have rr__9 : ∀ q : Nat, a + 59 ≤ q ∧ q ≤ a + 60 → h138 q = h105 q := fun q hq => (f138 q (by omega)).trans (rr__8 q hq)
        have oo__6 : ∀ q : Nat, a + 61 ≤ q ∧ q ≤ a + 67 → h138 q = h116 q := fun q hq => (f138 q (by omega)).trans (oo__5 q hq)
        have ww__3 : ∀ q : Nat, a + 68 ≤ q ∧ q ≤ a + 129 → h138 q = h127 q := fun q hq => (f138 q (by omega)).trans (ww__2 q hq)
        clear ho__29 r__20 n73__17 n134_ fr__29 fl__17 g1__14 g2__11 rr__8 oo__5 ww__2
        refine g_nx (c2 := 131) (s2 := 3583) (n2 := a + 132) (by omega) (by omega) (by omega) ?_
        have ss_ : ∀ q : Nat, a + 130 ≤ q ∧ q ≤ a + 131 → h138 q = h138 q := fun _ _ => rfl
        refine g_putF k 9 10 (C := RX9) (T := TX9) (N := 15) fl_X9_68 rfl wi_X9 tyX9 tyX9_ok nmX9 (by decide) rfl rfl rfl rfl ho__30 (Nat.le_of_ble_eq_true rfl) (fs2 := [.ref (a + 1), .ref (a + 5), .ref (a + 9), .ref (a + 43), .ref (a + 52), .ref (a + 53), .ref (a + 56), .ref (a + 59), .ref (a + 61), .ref (a + 68), .ref (a + 130), .null, .null, .null, vi 0]) rfl rfl rfl rfl dX9_init_141 (fun h141 eh141 => ?_)
        have ho__31 : h141 a = some (ob 9 [.ref (a + 1), .ref (a + 5), .ref (a + 9), .ref (a + 43), .ref (a + 52), .ref (a + 53), .ref (a + 56), .ref (a + 59), .ref (a + 61), .ref (a + 68), .ref (a + 130), .null, .null, .null, vi 0]) := (congrFun eh141 _).trans hup_s
        have r__22 : h141 (a + 43) = some (aq G 2 f) := (congrFun eh141 _).trans ((hup_n (by first | exact nea (by decide) | exact nea0 (by decide) | exact nea1 (by decide) | omega)).trans r__21)
        have n73__19 : h141 (a + 52) = some (az G 2 (fun _ => (0 : Int))) := (congrFun eh141 _).trans ((hup_n (by first | exact nea (by decide) | exact nea0 (by decide) | exact nea1 (by decide) | omega)).trans n73__18)
        have fr__31 : ∀ q : Nat, q < a → h141 q = h q := fun q hq => (congrFun eh141 q).trans ((hup_n (by omega)).trans (fr__30 q hq))
        have fl__19 : ∀ q : Nat, a < q ∧ q ≠ a + 43 ∧ q < a + 44 + 4 * 2 → h141 q = h47 q := fun q hq => (congrFun eh141 q).trans ((hup_n (by omega)).trans (fl__18 q hq))
        have g1__16 : ∀ q : Nat, a + 53 ≤ q ∧ q ≤ a + 55 → h141 q = h83 q := fun q hq => (congrFun eh141 q).trans ((hup_n (by omega)).trans (g1__15 q hq))
        have g2__13 : ∀ q : Nat, a + 56 ≤ q ∧ q ≤ a + 58 → h141 q = h94 q := fun q hq => (congrFun eh141 q).trans ((hup_n (by omega)).trans (g2__12 q hq))
        have rr__10 : ∀ q : Nat, a + 59 ≤ q ∧ q ≤ a + 60 → h141 q = h105 q := fun q hq => (congrFun eh141 q).trans ((hup_n (by omega)).trans (rr__9 q hq))
        have oo__7 : ∀ q : Nat, a + 61 ≤ q ∧ q ≤ a + 67 → h141 q = h116 q := fun q hq => (congrFun eh141 q).trans ((hup_n (by omega)).trans (oo__6 q hq))
        have ww__4 : ∀ q : Nat, a + 68 ≤ q ∧ q ≤ a + 129 → h141 q = h127 q := fun q hq => (congrFun eh141 q).trans ((hup_n (by omega)).trans (ww__3 q hq))
        have ss__1 : ∀ q : Nat, a + 130 ≤ q ∧ q ≤ a + 131 → h141 q = h138 q := fun q hq => (congrFun eh141 q).trans ((hup_n (by omega)).trans (ss_ q hq))
        clear ho__30 r__21 n73__18 fr__30 fl__18 g1__15 g2__12 rr__9 oo__6 ww__3 ss_ eh141
        refine g_aload_n k rfl dX9_init_144 ?_
        refine g_bipush k rfl dX9_init_145 ?_
        refine g_newi k (n := 8) (by decide) (by decide) ac_int (by omega) (by omega) dX9_init_147 (fun h147 eh147 => ?_)
        have ho__32 : h147 a = some (ob 9 [.ref (a + 1), .ref (a + 5), .ref (a + 9), .ref (a + 43), .ref (a + 52), .ref (a + 53), .ref (a + 56), .ref (a + 59), .ref (a + 61), .ref (a + 68), .ref (a + 130), .null, .null, .null, vi 0]) := (congrFun eh147 _).trans ((hup_n (by first | exact nea (by decide) | exact nea0 (by decide) | exact nea1 (by decide) | omega)).trans ho__31)
        have r__23 : h147 (a + 43) = some (aq G 2 f) := (congrFun eh147 _).trans ((hup_n (by first | exact nea (by decide) | exact nea0 (by decide) | exact nea1 (by decide) | omega)).trans r__22)
        have n73__20 : h147 (a + 52) = some (az G 2 (fun _ => (0 : Int))) := (congrFun eh147 _).trans ((hup_n (by first | exact nea (by decide) | exact nea0 (by decide) | exact nea1 (by decide) | omega)).trans n73__19)
        have fr__32 : ∀ q : Nat, q < a → h147 q = h q := fun q hq => (congrFun eh147 q).trans ((hup_n (by omega)).trans (fr__31 q hq))
        have fl__20 : ∀ q : Nat, a < q ∧ q ≠ a + 43 ∧ q < a + 44 + 4 * 2 → h147 q = h47 q := fun q hq => (congrFun eh147 q).trans ((hup_n (by omega)).trans (fl__19 q hq))
        have g1__17 : ∀ q : Nat, a + 53 ≤ q ∧ q ≤ a + 55 → h147 q = h83 q := fun q hq => (congrFun eh147 q).trans ((hup_n (by omega)).trans (g1__16 q hq))
        have g2__14 : ∀ q : Nat, a + 56 ≤ q ∧ q ≤ a + 58 → h147 q = h94 q := fun q hq => (congrFun eh147 q).trans ((hup_n (by omega)).trans (g2__13 q hq))
        have rr__11 : ∀ q : Nat, a + 59 ≤ q ∧ q ≤ a + 60 → h147 q = h105 q := fun q hq => (congrFun eh147 q).trans ((hup_n (by omega)).trans (rr__10 q hq))
        have oo__8 : ∀ q : Nat, a + 61 ≤ q ∧ q ≤ a + 67 → h147 q = h116 q := fun q hq => (congrFun eh147 q).trans ((hup_n (by omega)).trans (oo__7 q hq))
        have ww__5 : ∀ q : Nat, a + 68 ≤ q ∧ q ≤ a + 129 → h147 q = h127 q := fun q hq => (congrFun eh147 q).trans ((hup_n (by omega)).trans (ww__4 q hq))
        have ss__2 : ∀ q : Nat, a + 130 ≤ q ∧ q ≤ a + 131 → h147 q = h138 q := fun q hq => (congrFun eh147 q).trans ((hup_n (by omega)).trans (ss__1 q hq))
        have n147_ : h147 (a + 132) = some (ai G 8 (fun _ => (0 : Int))) := (congrFun eh147 _).trans hup_s
        clear ho__31 r__22 n73__19 fr__31 fl__19 g1__16 g2__13 rr__10 oo__7 ww__4 ss__1 eh147
        refine g_nx (c2 := 132) (s2 := 3591) (n2 := a + 133) (by omega) (by omega) (by omega) ?_
        refine g_putF k 9 11 (C := RX9) (T := TX9) (N := 15) fl_X9_72 rfl wi_X9 tyX9 tyX9_ok nmX9 (by decide) rfl rfl rfl rfl ho__32 (Nat.le_of_ble_eq_true rfl) (fs2 := [.ref (a + 1), .ref (a + 5), .ref (a + 9), .ref (a + 43), .ref (a + 52), .ref (a + 53), .ref (a + 56), .ref (a + 59), .ref (a + 61), .ref (a + 68), .ref (a + 130), .ref (a + 132), .null, .null, vi 0]) rfl rfl rfl rfl dX9_init_149 (fun h149 eh149 => ?_)
        have ho__33 : h149 a = some (ob 9 [.ref (a + 1), .ref (a + 5), .ref (a + 9), .ref (a + 43), .ref (a + 52), .ref (a + 53), .ref (a + 56), .ref (a + 59), .ref (a + 61), .ref (a + 68), .ref (a + 130), .ref (a + 132), .null, .null, vi 0]) := (congrFun eh149 _).trans hup_s
        have r__24 : h149 (a + 43) = some (aq G 2 f) := (congrFun eh149 _).trans ((hup_n (by first | exact nea (by decide) | exact nea0 (by decide) | exact nea1 (by decide) | omega)).trans r__23)
        have n73__21 : h149 (a + 52) = some (az G 2 (fun _ => (0 : Int))) := (congrFun eh149 _).trans ((hup_n (by first | exact nea (by decide) | exact nea0 (by decide) | exact nea1 (by decide) | omega)).trans n73__20)
        have n147__1 : h149 (a + 132) = some (ai G 8 (fun _ => (0 : Int))) := (congrFun eh149 _).trans ((hup_n (by first | exact nea (by decide) | exact nea0 (by decide) | exact nea1 (by decide) | omega)).trans n147_)
        have fr__33 : ∀ q : Nat, q < a → h149 q = h q := fun q hq => (congrFun eh149 q).trans ((hup_n (by omega)).trans (fr__32 q hq))
        have fl__21 : ∀ q : Nat, a < q ∧ q ≠ a + 43 ∧ q < a + 44 + 4 * 2 → h149 q = h47 q := fun q hq => (congrFun eh149 q).trans ((hup_n (by omega)).trans (fl__20 q hq))
        have g1__18 : ∀ q : Nat, a + 53 ≤ q ∧ q ≤ a + 55 → h149 q = h83 q := fun q hq => (congrFun eh149 q).trans ((hup_n (by omega)).trans (g1__17 q hq))
        have g2__15 : ∀ q : Nat, a + 56 ≤ q ∧ q ≤ a + 58 → h149 q = h94 q := fun q hq => (congrFun eh149 q).trans ((hup_n (by omega)).trans (g2__14 q hq))
        have rr__12 : ∀ q : Nat, a + 59 ≤ q ∧ q ≤ a + 60 → h149 q = h105 q := fun q hq => (congrFun eh149 q).trans ((hup_n (by omega)).trans (rr__11 q hq))
        have oo__9 : ∀ q : Nat, a + 61 ≤ q ∧ q ≤ a + 67 → h149 q = h116 q := fun q hq => (congrFun eh149 q).trans ((hup_n (by omega)).trans (oo__8 q hq))
        have ww__6 : ∀ q : Nat, a + 68 ≤ q ∧ q ≤ a + 129 → h149 q = h127 q := fun q hq => (congrFun eh149 q).trans ((hup_n (by omega)).trans (ww__5 q hq))
        have ss__3 : ∀ q : Nat, a + 130 ≤ q ∧ q ≤ a + 131 → h149 q = h138 q := fun q hq => (congrFun eh149 q).trans ((hup_n (by omega)).trans (ss__2 q hq))
        clear ho__32 r__23 n73__20 n147_ fr__32 fl__20 g1__17 g2__14 rr__11 oo__8 ww__5 ss__2 eh149
        refine g_aload_n k rfl dX9_init_152 ?_
        refine g_new k 7 (C := RX7) (T := TX7) (N := 2) (fs := [vi 0, .null]) kl_X9_76 ins_X7 ini_X7 rfl wi_X7 tyX7 tyX7_ok dv_X7 (by omega) (by omega) dX9_init_153 (fun h153 eh153 => ?_)
        have ho__34 : h153 a = some (ob 9 [.ref (a + 1), .ref (a + 5), .ref (a + 9), .ref (a + 43), .ref (a + 52), .ref (a + 53), .ref (a + 56), .ref (a + 59), .ref (a + 61), .ref (a + 68), .ref (a + 130), .ref (a + 132), .null, .null, vi 0]) := (congrFun eh153 _).trans ((hup_n (by first | exact nea (by decide) | exact nea0 (by decide) | exact nea1 (by decide) | omega)).trans ho__33)
        have r__25 : h153 (a + 43) = some (aq G 2 f) := (congrFun eh153 _).trans ((hup_n (by first | exact nea (by decide) | exact nea0 (by decide) | exact nea1 (by decide) | omega)).trans r__24)
        have n73__22 : h153 (a + 52) = some (az G 2 (fun _ => (0 : Int))) := (congrFun eh153 _).trans ((hup_n (by first | exact nea (by decide) | exact nea0 (by decide) | exact nea1 (by decide) | omega)).trans n73__21)
        have n147__2 : h153 (a + 132) = some (ai G 8 (fun _ => (0 : Int))) := (congrFun eh153 _).trans ((hup_n (by first | exact nea (by decide) | exact nea0 (by decide) | exact nea1 (by decide) | omega)).trans n147__1)
        have fr__34 : ∀ q : Nat, q < a → h153 q = h q := fun q hq => (congrFun eh153 q).trans ((hup_n (by omega)).trans (fr__33 q hq))
        have fl__22 : ∀ q : Nat, a < q ∧ q ≠ a + 43 ∧ q < a + 44 + 4 * 2 → h153 q = h47 q := fun q hq => (congrFun eh153 q).trans ((hup_n (by omega)).trans (fl__21 q hq))
        have g1__19 : ∀ q : Nat, a + 53 ≤ q ∧ q ≤ a + 55 → h153 q = h83 q := fun q hq => (congrFun eh153 q).trans ((hup_n (by omega)).trans (g1__18 q hq))
        have g2__16 : ∀ q : Nat, a + 56 ≤ q ∧ q ≤ a + 58 → h153 q = h94 q := fun q hq => (congrFun eh153 q).trans ((hup_n (by omega)).trans (g2__15 q hq))
        have rr__13 : ∀ q : Nat, a + 59 ≤ q ∧ q ≤ a + 60 → h153 q = h105 q := fun q hq => (congrFun eh153 q).trans ((hup_n (by omega)).trans (rr__12 q hq))
        have oo__10 : ∀ q : Nat, a + 61 ≤ q ∧ q ≤ a + 67 → h153 q = h116 q := fun q hq => (congrFun eh153 q).trans ((hup_n (by omega)).trans (oo__9 q hq))
        have ww__7 : ∀ q : Nat, a + 68 ≤ q ∧ q ≤ a + 129 → h153 q = h127 q := fun q hq => (congrFun eh153 q).trans ((hup_n (by omega)).trans (ww__6 q hq))
        have ss__4 : ∀ q : Nat, a + 130 ≤ q ∧ q ≤ a + 131 → h153 q = h138 q := fun q hq => (congrFun eh153 q).trans ((hup_n (by omega)).trans (ss__3 q hq))
        have n153_ : h153 (a + 133) = some (ob 7 [vi 0, .null]) := (congrFun eh153 _).trans hup_s
        clear ho__33 r__24 n73__21 n147__1 fr__33 fl__21 g1__18 g2__15 rr__12 oo__9 ww__6 ss__3 eh153
        refine g_nx (c2 := 133) (s2 := 3593) (n2 := a + 134) (by omega) (by omega) (by omega) ?_
        refine g_dup k rfl dX9_init_156 ?_
        refine g_cN k (b := a + 133) (As := []) v_X7_init (fun U hU => nl_X9_78 hU) (n_X7 n153_) (by omega) (by omega) rfl (Nat.le_of_ble_eq_true rfl) rfl dX9_init_157 (fun h157 p157 => ?_)
        obtain ⟨p157, f157⟩ := p157
        have ho__35 : h157 a = some (ob 9 [.ref (a + 1), .ref (a + 5), .ref (a + 9), .ref (a + 43), .ref (a + 52), .ref (a + 53), .ref (a + 56), .ref (a + 59), .ref (a + 61), .ref (a + 68), .ref (a + 130), .ref (a + 132), .null, .null, vi 0]) := (f157 _ (by omega)).trans ho__34
        have r__26 : h157 (a + 43) = some (aq G 2 f) := (f157 _ (by omega)).trans r__25
        have n73__23 : h157 (a + 52) = some (az G 2 (fun _ => (0 : Int))) := (f157 _ (by omega)).trans n73__22
        have n147__3 : h157 (a + 132) = some (ai G 8 (fun _ => (0 : Int))) := (f157 _ (by omega)).trans n147__2
        have fr__35 : ∀ q : Nat, q < a → h157 q = h q := fun q hq => (f157 q (by omega)).trans (fr__34 q hq)
        have fl__23 : ∀ q : Nat, a < q ∧ q ≠ a + 43 ∧ q < a + 44 + 4 * 2 → h157 q = h47 q := fun q hq => (f157 q (by omega)).trans (fl__22 q hq)
        have g1__20 : ∀ q : Nat, a + 53 ≤ q ∧ q ≤ a + 55 → h157 q = h83 q := fun q hq => (f157 q (by omega)).trans (g1__19 q hq)
        have g2__17 : ∀ q : Nat, a + 56 ≤ q ∧ q ≤ a + 58 → h157 q = h94 q := fun q hq => (f157 q (by omega)).trans (g2__16 q hq)
        have rr__14 : ∀ q : Nat, a + 59 ≤ q ∧ q ≤ a + 60 → h157 q = h105 q := fun q hq => (f157 q (by omega)).trans (rr__13 q hq)
        have oo__11 : ∀ q : Nat, a + 61 ≤ q ∧ q ≤ a + 67 → h157 q = h116 q := fun q hq => (f157 q (by omega)).trans (oo__10 q hq)
        have ww__8 : ∀ q : Nat, a + 68 ≤ q ∧ q ≤ a + 129 → h157 q = h127 q := fun q hq => (f157 q (by omega)).trans (ww__7 q hq)
        have ss__5 : ∀ q : Nat, a + 130 ≤ q ∧ q ≤ a + 131 → h157 q = h138 q := fun q hq => (f157 q (by omega)).trans (ss__4 q hq)
        clear ho__34 r__25 n73__22 n147__2 n153_ fr__34 fl__22 g1__19 g2__16 rr__13 oo__10 ww__7 ss__4
        refine g_nx (c2 := 134) (s2 := 4333) (n2 := a + 135) (by omega) (by omega) (by omega) ?_
        have tt_ : ∀ q : Nat, a + 133 ≤ q ∧ q ≤ a + 134 → h157 q = h157 q := fun _ _ => rfl
        refine g_putF k 9 12 (C := RX9) (T := TX9) (N := 15) fl_X9_79 rfl wi_X9 tyX9 tyX9_ok nmX9 (by decide) rfl rfl rfl rfl ho__35 (Nat.le_of_ble_eq_true rfl) (fs2 := [.ref (a + 1), .ref (a + 5), .ref (a + 9), .ref (a + 43), .ref (a + 52), .ref (a + 53), .ref (a + 56), .ref (a + 59), .ref (a + 61), .ref (a + 68), .ref (a + 130), .ref (a + 132), .ref (a + 133), .null, vi 0]) rfl rfl rfl rfl dX9_init_160 (fun h160 eh160 => ?_)
        have ho__36 : h160 a = some (ob 9 [.ref (a + 1), .ref (a + 5), .ref (a + 9), .ref (a + 43), .ref (a + 52), .ref (a + 53), .ref (a + 56), .ref (a + 59), .ref (a + 61), .ref (a + 68), .ref (a + 130), .ref (a + 132), .ref (a + 133), .null, vi 0]) := (congrFun eh160 _).trans hup_s
        have r__27 : h160 (a + 43) = some (aq G 2 f) := (congrFun eh160 _).trans ((hup_n (by first | exact nea (by decide) | exact nea0 (by decide) | exact nea1 (by decide) | omega)).trans r__26)
        have n73__24 : h160 (a + 52) = some (az G 2 (fun _ => (0 : Int))) := (congrFun eh160 _).trans ((hup_n (by first | exact nea (by decide) | exact nea0 (by decide) | exact nea1 (by decide) | omega)).trans n73__23)
        have n147__4 : h160 (a + 132) = some (ai G 8 (fun _ => (0 : Int))) := (congrFun eh160 _).trans ((hup_n (by first | exact nea (by decide) | exact nea0 (by decide) | exact nea1 (by decide) | omega)).trans n147__3)
        have fr__36 : ∀ q : Nat, q < a → h160 q = h q := fun q hq => (congrFun eh160 q).trans ((hup_n (by omega)).trans (fr__35 q hq))
        have fl__24 : ∀ q : Nat, a < q ∧ q ≠ a + 43 ∧ q < a + 44 + 4 * 2 → h160 q = h47 q := fun q hq => (congrFun eh160 q).trans ((hup_n (by omega)).trans (fl__23 q hq))
        have g1__21 : ∀ q : Nat, a + 53 ≤ q ∧ q ≤ a + 55 → h160 q = h83 q := fun q hq => (congrFun eh160 q).trans ((hup_n (by omega)).trans (g1__20 q hq))
        have g2__18 : ∀ q : Nat, a + 56 ≤ q ∧ q ≤ a + 58 → h160 q = h94 q := fun q hq => (congrFun eh160 q).trans ((hup_n (by omega)).trans (g2__17 q hq))
        have rr__15 : ∀ q : Nat, a + 59 ≤ q ∧ q ≤ a + 60 → h160 q = h105 q := fun q hq => (congrFun eh160 q).trans ((hup_n (by omega)).trans (rr__14 q hq))
        have oo__12 : ∀ q : Nat, a + 61 ≤ q ∧ q ≤ a + 67 → h160 q = h116 q := fun q hq => (congrFun eh160 q).trans ((hup_n (by omega)).trans (oo__11 q hq))
        have ww__9 : ∀ q : Nat, a + 68 ≤ q ∧ q ≤ a + 129 → h160 q = h127 q := fun q hq => (congrFun eh160 q).trans ((hup_n (by omega)).trans (ww__8 q hq))
        have ss__6 : ∀ q : Nat, a + 130 ≤ q ∧ q ≤ a + 131 → h160 q = h138 q := fun q hq => (congrFun eh160 q).trans ((hup_n (by omega)).trans (ss__5 q hq))
        have tt__1 : ∀ q : Nat, a + 133 ≤ q ∧ q ≤ a + 134 → h160 q = h157 q := fun q hq => (congrFun eh160 q).trans ((hup_n (by omega)).trans (tt_ q hq))
        clear ho__35 r__26 n73__23 n147__3 fr__35 fl__23 g1__20 g2__17 rr__14 oo__11 ww__8 ss__5 tt_ eh160
        refine g_aload_n k rfl dX9_init_163 ?_
        refine g_new k 4 (C := RX4) (T := TX4) (N := 11) (fs := [vi 0, .null, vi 0, vi 0, vi 0, vi 0, vi 0, vl 0, .null, .null, .null]) kl_X9_83 ins_X4 ini_X4 rfl wi_X4 tyX4 tyX4_ok dv_X4 (by omega) (by omega) dX9_init_164 (fun h164 eh164 => ?_)
        have ho__37 : h164 a = some (ob 9 [.ref (a + 1), .ref (a + 5), .ref (a + 9), .ref (a + 43), .ref (a + 52), .ref (a + 53), .ref (a + 56), .ref (a + 59), .ref (a + 61), .ref (a + 68), .ref (a + 130), .ref (a + 132), .ref (a + 133), .null, vi 0]) := (congrFun eh164 _).trans ((hup_n (by first | exact nea (by decide) | exact nea0 (by decide) | exact nea1 (by decide) | omega)).trans ho__36)
        have r__28 : h164 (a + 43) = some (aq G 2 f) := (congrFun eh164 _).trans ((hup_n (by first | exact nea (by decide) | exact nea0 (by decide) | exact nea1 (by decide) | omega)).trans r__27)
        have n73__25 : h164 (a + 52) = some (az G 2 (fun _ => (0 : Int))) := (congrFun eh164 _).trans ((hup_n (by first | exact nea (by decide) | exact nea0 (by decide) | exact nea1 (by decide) | omega)).trans n73__24)
        have n147__5 : h164 (a + 132) = some (ai G 8 (fun _ => (0 : Int))) := (congrFun eh164 _).trans ((hup_n (by first | exact nea (by decide) | exact nea0 (by decide) | exact nea1 (by decide) | omega)).trans n147__4)
        have fr__37 : ∀ q : Nat, q < a → h164 q = h q := fun q hq => (congrFun eh164 q).trans ((hup_n (by omega)).trans (fr__36 q hq))
        have fl__25 : ∀ q : Nat, a < q ∧ q ≠ a + 43 ∧ q < a + 44 + 4 * 2 → h164 q = h47 q := fun q hq => (congrFun eh164 q).trans ((hup_n (by omega)).trans (fl__24 q hq))
        have g1__22 : ∀ q : Nat, a + 53 ≤ q ∧ q ≤ a + 55 → h164 q = h83 q := fun q hq => (congrFun eh164 q).trans ((hup_n (by omega)).trans (g1__21 q hq))
        have g2__19 : ∀ q : Nat, a + 56 ≤ q ∧ q ≤ a + 58 → h164 q = h94 q := fun q hq => (congrFun eh164 q).trans ((hup_n (by omega)).trans (g2__18 q hq))
        have rr__16 : ∀ q : Nat, a + 59 ≤ q ∧ q ≤ a + 60 → h164 q = h105 q := fun q hq => (congrFun eh164 q).trans ((hup_n (by omega)).trans (rr__15 q hq))
        have oo__13 : ∀ q : Nat, a + 61 ≤ q ∧ q ≤ a + 67 → h164 q = h116 q := fun q hq => (congrFun eh164 q).trans ((hup_n (by omega)).trans (oo__12 q hq))
        have ww__10 : ∀ q : Nat, a + 68 ≤ q ∧ q ≤ a + 129 → h164 q = h127 q := fun q hq => (congrFun eh164 q).trans ((hup_n (by omega)).trans (ww__9 q hq))
        have ss__7 : ∀ q : Nat, a + 130 ≤ q ∧ q ≤ a + 131 → h164 q = h138 q := fun q hq => (congrFun eh164 q).trans ((hup_n (by omega)).trans (ss__6 q hq))
        have tt__2 : ∀ q : Nat, a + 133 ≤ q ∧ q ≤ a + 134 → h164 q = h157 q := fun q hq => (congrFun eh164 q).trans ((hup_n (by omega)).trans (tt__1 q hq))
        have n164_ : h164 (a + 135) = some (ob 4 [vi 0, .null, vi 0, vi 0, vi 0, vi 0, vi 0, vl 0, .null, .null, .null]) := (congrFun eh164 _).trans hup_s
        clear ho__36 r__27 n73__24 n147__4 fr__36 fl__24 g1__21 g2__18 rr__15 oo__12 ww__9 ss__6 tt__1 eh164
        refine g_nx (c2 := 135) (s2 := 4344) (n2 := a + 136) (by omega) (by omega) (by omega) ?_
        refine g_dup k rfl dX9_init_167 ?_
        refine g_aload_n k rfl dX9_init_168 ?_
        refine g_get k 9 12 (C := RX9) (T := TX9) (N := 15) fl_X9_79 rfl wi_X9 (by decide) rfl ho__37 rfl dX9_init_169 ?_
        refine g_aload_n k rfl dX9_init_172 ?_
        refine g_get k 9 5 (C := RX9) (T := TX9) (N := 15) fl_X9_37 rfl wi_X9 (by decide) rfl ho__37 rfl dX9_init_173 ?_
        refine g_cI k (b := a + 135) (As := [.ref (a + 133), .ref (a + 53)]) v_X4_init ml_X9_85 (n_X4 n164_) (by omega) (by omega) rfl (Nat.le_of_ble_eq_true rfl) rfl dX9_init_176 (fun h176 p176 => ?_)
        obtain ⟨p176, f176⟩ := p176
        have ho__38 : h176 a = some (ob 9 [.ref (a + 1), .ref (a + 5), .ref (a + 9), .ref (a + 43), .ref (a + 52), .ref (a + 53), .ref (a + 56), .ref (a + 59), .ref (a + 61), .ref (a + 68), .ref (a + 130), .ref (a + 132), .ref (a + 133), .null, vi 0]) := (f176 _ (by omega)).trans ho__37
        have r__29 : h176 (a + 43) = some (aq G 2 f) := (f176 _ (by omega)).trans r__28
        have n73__26 : h176 (a + 52) = some (az G 2 (fun _ => (0 : Int))) := (f176 _ (by omega)).trans n73__25
        have n147__6 : h176 (a + 132) = some (ai G 8 (fun _ => (0 : Int))) := (f176 _ (by omega)).trans n147__5
        have fr__38 : ∀ q : Nat, q < a → h176 q = h q := fun q hq => (f176 q (by omega)).trans (fr__37 q hq)
        have fl__26 : ∀ q : Nat, a < q ∧ q ≠ a + 43 ∧ q < a + 44 + 4 * 2 → h176 q = h47 q := fun q hq => (f176 q (by omega)).trans (fl__25 q hq)
        have g1__23 : ∀ q : Nat, a + 53 ≤ q ∧ q ≤ a + 55 → h176 q = h83 q := fun q hq => (f176 q (by omega)).trans (g1__22 q hq)
        have g2__20 : ∀ q : Nat, a + 56 ≤ q ∧ q ≤ a + 58 → h176 q = h94 q := fun q hq => (f176 q (by omega)).trans (g2__19 q hq)
        have rr__17 : ∀ q : Nat, a + 59 ≤ q ∧ q ≤ a + 60 → h176 q = h105 q := fun q hq => (f176 q (by omega)).trans (rr__16 q hq)
        have oo__14 : ∀ q : Nat, a + 61 ≤ q ∧ q ≤ a + 67 → h176 q = h116 q := fun q hq => (f176 q (by omega)).trans (oo__13 q hq)
        have ww__11 : ∀ q : Nat, a + 68 ≤ q ∧ q ≤ a + 129 → h176 q = h127 q := fun q hq => (f176 q (by omega)).trans (ww__10 q hq)
        have ss__8 : ∀ q : Nat, a + 130 ≤ q ∧ q ≤ a + 131 → h176 q = h138 q := fun q hq => (f176 q (by omega)).trans (ss__7 q hq)
        have tt__3 : ∀ q : Nat, a + 133 ≤ q ∧ q ≤ a + 134 → h176 q = h157 q := fun q hq => (f176 q (by omega)).trans (tt__2 q hq)
        clear ho__37 r__28 n73__25 n147__5 n164_ fr__37 fl__25 g1__22 g2__19 rr__16 oo__13 ww__10 ss__7 tt__2
        refine g_nx (c2 := 140) (s2 := 4441) (n2 := a + 141) (by omega) (by omega) (by omega) ?_
        have dd_ : ∀ q : Nat, a + 135 ≤ q ∧ q ≤ a + 140 → h176 q = h176 q := fun _ _ => rfl
        refine g_putF k 9 13 (C := RX9) (T := TX9) (N := 15) fl_X9_88 rfl wi_X9 tyX9 tyX9_ok nmX9 (by decide) rfl rfl rfl rfl ho__38 (Nat.le_of_ble_eq_true rfl) (fs2 := [.ref (a + 1), .ref (a + 5), .ref (a + 9), .ref (a + 43), .ref (a + 52), .ref (a + 53), .ref (a + 56), .ref (a + 59), .ref (a + 61), .ref (a + 68), .ref (a + 130), .ref (a + 132), .ref (a + 133), .ref (a + 135), vi 0]) rfl rfl rfl rfl dX9_init_179 (fun h179 eh179 => ?_)
        have ho__39 : h179 a = some (ob 9 [.ref (a + 1), .ref (a + 5), .ref (a + 9), .ref (a + 43), .ref (a + 52), .ref (a + 53), .ref (a + 56), .ref (a + 59), .ref (a + 61), .ref (a + 68), .ref (a + 130), .ref (a + 132), .ref (a + 133), .ref (a + 135), vi 0]) := (congrFun eh179 _).trans hup_s
        have r__30 : h179 (a + 43) = some (aq G 2 f) := (congrFun eh179 _).trans ((hup_n (by first | exact nea (by decide) | exact nea0 (by decide) | exact nea1 (by decide) | omega)).trans r__29)
        have n73__27 : h179 (a + 52) = some (az G 2 (fun _ => (0 : Int))) := (congrFun eh179 _).trans ((hup_n (by first | exact nea (by decide) | exact nea0 (by decide) | exact nea1 (by decide) | omega)).trans n73__26)
        have n147__7 : h179 (a + 132) = some (ai G 8 (fun _ => (0 : Int))) := (congrFun eh179 _).trans ((hup_n (by first | exact nea (by decide) | exact nea0 (by decide) | exact nea1 (by decide) | omega)).trans n147__6)
        have fr__39 : ∀ q : Nat, q < a → h179 q = h q := fun q hq => (congrFun eh179 q).trans ((hup_n (by omega)).trans (fr__38 q hq))
        have fl__27 : ∀ q : Nat, a < q ∧ q ≠ a + 43 ∧ q < a + 44 + 4 * 2 → h179 q = h47 q := fun q hq => (congrFun eh179 q).trans ((hup_n (by omega)).trans (fl__26 q hq))
        have g1__24 : ∀ q : Nat, a + 53 ≤ q ∧ q ≤ a + 55 → h179 q = h83 q := fun q hq => (congrFun eh179 q).trans ((hup_n (by omega)).trans (g1__23 q hq))
        have g2__21 : ∀ q : Nat, a + 56 ≤ q ∧ q ≤ a + 58 → h179 q = h94 q := fun q hq => (congrFun eh179 q).trans ((hup_n (by omega)).trans (g2__20 q hq))
        have rr__18 : ∀ q : Nat, a + 59 ≤ q ∧ q ≤ a + 60 → h179 q = h105 q := fun q hq => (congrFun eh179 q).trans ((hup_n (by omega)).trans (rr__17 q hq))
        have oo__15 : ∀ q : Nat, a + 61 ≤ q ∧ q ≤ a + 67 → h179 q = h116 q := fun q hq => (congrFun eh179 q).trans ((hup_n (by omega)).trans (oo__14 q hq))
        have ww__12 : ∀ q : Nat, a + 68 ≤ q ∧ q ≤ a + 129 → h179 q = h127 q := fun q hq => (congrFun eh179 q).trans ((hup_n (by omega)).trans (ww__11 q hq))
        have ss__9 : ∀ q : Nat, a + 130 ≤ q ∧ q ≤ a + 131 → h179 q = h138 q := fun q hq => (congrFun eh179 q).trans ((hup_n (by omega)).trans (ss__8 q hq))
        have tt__4 : ∀ q : Nat, a + 133 ≤ q ∧ q ≤ a + 134 → h179 q = h157 q := fun q hq => (congrFun eh179 q).trans ((hup_n (by omega)).trans (tt__3 q hq))
        have dd__1 : ∀ q : Nat, a + 135 ≤ q ∧ q ≤ a + 140 → h179 q = h176 q := fun q hq => (congrFun eh179 q).trans ((hup_n (by omega)).trans (dd_ q hq))
        clear ho__38 r__29 n73__26 n147__6 fr__38 fl__26 g1__23 g2__20 rr__17 oo__14 ww__11 ss__8 tt__3 dd_ eh179
        refine g_aload_n k rfl dX9_init_182 ?_
        refine g_iconst k dX9_init_183 ?_
        refine g_put k 9 14 (C := RX9) (T := TX9) (N := 15) fl_X9_92 rfl wi_X9 tyX9 tyX9_ok nmX9 (by decide) rfl rfl rfl rfl ho__39 (Nat.le_of_ble_eq_true rfl) (fs2 := [.ref (a + 1), .ref (a + 5), .ref (a + 9), .ref (a + 43), .ref (a + 52), .ref (a + 53), .ref (a + 56), .ref (a + 59), .ref (a + 61), .ref (a + 68), .ref (a + 130), .ref (a + 132), .ref (a + 133), .ref (a + 135), vi 0]) rfl rfl dX9_init_184 (fun h184 eh184 => ?_)
        have ho__40 : h184 a = some (ob 9 [.ref (a + 1), .ref (a + 5), .ref (a + 9), .ref (a + 43), .ref (a + 52), .ref (a + 53), .ref (a + 56), .ref (a + 59), .ref (a + 61), .ref (a + 68), .ref (a + 130), .ref (a + 132), .ref (a + 133), .ref (a + 135), vi 0]) := (congrFun eh184 _).trans hup_s
        have r__31 : h184 (a + 43) = some (aq G 2 f) := (congrFun eh184 _).trans ((hup_n (by first | exact nea (by decide) | exact nea0 (by decide) | exact nea1 (by decide) | omega)).trans r__30)
        have n73__28 : h184 (a + 52) = some (az G 2 (fun _ => (0 : Int))) := (congrFun eh184 _).trans ((hup_n (by first | exact nea (by decide) | exact nea0 (by decide) | exact nea1 (by decide) | omega)).trans n73__27)
        have n147__8 : h184 (a + 132) = some (ai G 8 (fun _ => (0 : Int))) := (congrFun eh184 _).trans ((hup_n (by first | exact nea (by decide) | exact nea0 (by decide) | exact nea1 (by decide) | omega)).trans n147__7)
        have fr__40 : ∀ q : Nat, q < a → h184 q = h q := fun q hq => (congrFun eh184 q).trans ((hup_n (by omega)).trans (fr__39 q hq))
        have fl__28 : ∀ q : Nat, a < q ∧ q ≠ a + 43 ∧ q < a + 44 + 4 * 2 → h184 q = h47 q := fun q hq => (congrFun eh184 q).trans ((hup_n (by omega)).trans (fl__27 q hq))
        have g1__25 : ∀ q : Nat, a + 53 ≤ q ∧ q ≤ a + 55 → h184 q = h83 q := fun q hq => (congrFun eh184 q).trans ((hup_n (by omega)).trans (g1__24 q hq))
        have g2__22 : ∀ q : Nat, a + 56 ≤ q ∧ q ≤ a + 58 → h184 q = h94 q := fun q hq => (congrFun eh184 q).trans ((hup_n (by omega)).trans (g2__21 q hq))
        have rr__19 : ∀ q : Nat, a + 59 ≤ q ∧ q ≤ a + 60 → h184 q = h105 q := fun q hq => (congrFun eh184 q).trans ((hup_n (by omega)).trans (rr__18 q hq))
        have oo__16 : ∀ q : Nat, a + 61 ≤ q ∧ q ≤ a + 67 → h184 q = h116 q := fun q hq => (congrFun eh184 q).trans ((hup_n (by omega)).trans (oo__15 q hq))
        have ww__13 : ∀ q : Nat, a + 68 ≤ q ∧ q ≤ a + 129 → h184 q = h127 q := fun q hq => (congrFun eh184 q).trans ((hup_n (by omega)).trans (ww__12 q hq))
        have ss__10 : ∀ q : Nat, a + 130 ≤ q ∧ q ≤ a + 131 → h184 q = h138 q := fun q hq => (congrFun eh184 q).trans ((hup_n (by omega)).trans (ss__9 q hq))
        have tt__5 : ∀ q : Nat, a + 133 ≤ q ∧ q ≤ a + 134 → h184 q = h157 q := fun q hq => (congrFun eh184 q).trans ((hup_n (by omega)).trans (tt__4 q hq))
        have dd__2 : ∀ q : Nat, a + 135 ≤ q ∧ q ≤ a + 140 → h184 q = h176 q := fun q hq => (congrFun eh184 q).trans ((hup_n (by omega)).trans (dd__1 q hq))
        clear ho__39 r__30 n73__27 n147__7 fr__39 fl__27 g1__24 g2__21 rr__18 oo__15 ww__12 ss__9 tt__4 dd__1 eh184
        rw [← hQQ]
        refine g_retv k rfl dX9_init_187 ?_
        exact ⟨⟨⟨0, ho__40⟩, (FZ_A hF0).keep (fun q g1 g2 => fl__28 q (by omega)), ⟨0, 0, _, _, _, hM0.keep (fun q g1 g2 => fl__28 q (by omega))⟩, PA.keep hP0 (fun q g1 g2 => fl__28 q (by omega)), ⟨⟨f, r__31, (hf 0 (by omega)).1, (hf 1 (by omega)).1⟩, ⟨_, n73__28, fun k hk => rfl⟩, fun k hk => ⟨⟨0, 0, _, _, _, (hf k hk).2.keep (fun q g1 g2 => fl__28 q (by omega))⟩, fun i ψ e => nomatch e⟩⟩, (GA_V0 p83).keep (fun q g1 g2 => g1__25 q (by omega)), ⟨V0, (GA_V0 p94).keep (fun q g1 g2 => g2__22 q (by omega))⟩, ⟨0, _, p105.keep (fun q g1 g2 => rr__19 q (by omega))⟩, ⟨⟨0, 0, 0, _, _, _, _, p116.1.keep (fun q g1 g2 => oo__16 q (by omega))⟩, 0, _, p116.2.keep (fun q g1 g2 => oo__16 q (by omega))⟩, p127.keep (fun q g1 g2 => ww__13 q (by omega)), ⟨_, p138.keep (fun q g1 g2 => ss__10 q (by omega))⟩, ⟨_, n147__8⟩, p157.keep (fun q g1 => tt__5 q (by omega)), ⟨0, 0, 0, 0, 0, 0, _, p176.1.keep (fun q g1 => dd__2 q (by omega)), Nat.zero_le _⟩, 0, 0, _, _, _, p176.2.keep (fun q g1 g2 => dd__2 q (by omega))⟩, fr__40⟩
      · skip
        refine g_aload_n k rfl dX9_init_52 ?_
        refine g_get k 9 3 (C := RX9) (T := TX9) (N := 15) fl_X9_26 rfl wi_X9 (by decide) rfl ho__11 rfl dX9_init_53 ?_
        refine g_iload_n k rfl dX9_init_56 ?_
        refine g_new k 0 (C := RX0) (T := TX0) (N := 5) (fs := [vi 0, vi 0, .null, .null, .null]) kl_X9_9 ins_X0 ini_X0 rfl wi_X0 tyX0 tyX0_ok dv_X0 (by omega) (by omega) dX9_init_57 (fun h57 eh57 => ?_)
        have ho__41 : h57 a = some (ob 9 [.ref (a + 1), .ref (a + 5), .ref (a + 9), .ref (a + 43), .null, .null, .null, .null, .null, .null, .null, .null, .null, .null, vi 0]) := (congrFun eh57 _).trans ((hup_n (by first | exact nea (by decide) | exact nea0 (by decide) | exact nea1 (by decide) | omega)).trans ho__11)
        have r__32 : h57 (a + 43) = some (aq G 2 f) := (congrFun eh57 _).trans ((hup_n (by first | exact nea (by decide) | exact nea0 (by decide) | exact nea1 (by decide) | omega)).trans r__2)
        have fr__41 : ∀ q : Nat, q < a → h57 q = h q := fun q hq => (congrFun eh57 q).trans ((hup_n (by omega)).trans (fr__11 q hq))
        have fl__29 : ∀ q : Nat, a < q ∧ q ≠ a + 43 ∧ q < a + 44 + 4 * i → h57 q = h47 q := fun q hq => (congrFun eh57 q).trans ((hup_n (by omega)).trans ((fun _ _ => rfl) q hq))
        have n57_ : h57 (a + 44 + 4 * i) = some (ob 0 [vi 0, vi 0, .null, .null, .null]) := (congrFun eh57 _).trans hup_s
        clear ho__11 r__2 fr__11 eh57
        refine g_nx (c2 := 43 + 4 * i + 1) (s2 := 902 + 89 * i + 5) (n2 := a + 44 + 4 * i + 1) (by omega) (by omega) (by omega) ?_
        refine g_dup k rfl dX9_init_60 ?_
        refine g_cN k (b := a + 44 + 4 * i) (As := []) v_X0_init (fun U hU => nl_X9_11 hU) (n_X0 n57_) (by omega) (by omega) rfl (Nat.le_of_ble_eq_true rfl) rfl dX9_init_61 (fun h61 p61 => ?_)
        obtain ⟨p61, f61⟩ := p61
        have ho__42 : h61 a = some (ob 9 [.ref (a + 1), .ref (a + 5), .ref (a + 9), .ref (a + 43), .null, .null, .null, .null, .null, .null, .null, .null, .null, .null, vi 0]) := (f61 _ (by omega)).trans ho__41
        have r__33 : h61 (a + 43) = some (aq G 2 f) := (f61 _ (by omega)).trans r__32
        have n57__1 : h61 (a + 44 + 4 * i) = some (ob 0 [vi ((0 : Nat) : Int), vi ((0 : Nat) : Int), .ref (a + 44 + 4 * i + 1), .ref (a + 44 + 4 * i + 2), .ref (a + 44 + 4 * i + 3)]) := p61.1
        have fr__42 : ∀ q : Nat, q < a → h61 q = h q := fun q hq => (f61 q (by omega)).trans (fr__41 q hq)
        have fl__30 : ∀ q : Nat, a < q ∧ q ≠ a + 43 ∧ q < a + 44 + 4 * i → h61 q = h47 q := fun q hq => (f61 q (by omega)).trans (fl__29 q hq)
        clear ho__41 r__32 n57_ fr__41 fl__29
        refine g_nx (c2 := 43 + 4 * i + 4) (s2 := 902 + 89 * i + 89) (n2 := a + 44 + 4 * i + 4) (by omega) (by omega) (by omega) ?_
        have fz_ : ∀ q : Nat, a + 44 + 4 * i ≤ q → h61 q = h61 q := fun _ _ => rfl
        refine g_astq k i r__33 n57__1 (by omega) (by omega) (by decide) dX9_init_64 (fun h64 eh64 => ?_)
        have ho__43 : h64 a = some (ob 9 [.ref (a + 1), .ref (a + 5), .ref (a + 9), .ref (a + 43), .null, .null, .null, .null, .null, .null, .null, .null, .null, .null, vi 0]) := (congrFun eh64 _).trans ((hup_n (by first | exact nea (by decide) | exact nea0 (by decide) | exact nea1 (by decide) | omega)).trans ho__42)
        have r__34 : h64 (a + 43) = some (aq G 2 (fu f i (some (a + 44 + 4 * i)))) := (congrFun eh64 _).trans hup_s
        have n57__2 : h64 (a + 44 + 4 * i) = some (ob 0 [vi ((0 : Nat) : Int), vi ((0 : Nat) : Int), .ref (a + 44 + 4 * i + 1), .ref (a + 44 + 4 * i + 2), .ref (a + 44 + 4 * i + 3)]) := (congrFun eh64 _).trans ((hup_n (by first | exact nea (by decide) | exact nea0 (by decide) | exact nea1 (by decide) | omega)).trans n57__1)
        have fr__43 : ∀ q : Nat, q < a → h64 q = h q := fun q hq => (congrFun eh64 q).trans ((hup_n (by omega)).trans (fr__42 q hq))
        have fl__31 : ∀ q : Nat, a < q ∧ q ≠ a + 43 ∧ q < a + 44 + 4 * i → h64 q = h47 q := fun q hq => (congrFun eh64 q).trans ((hup_n (by omega)).trans (fl__30 q hq))
        have fz__1 : ∀ q : Nat, a + 44 + 4 * i ≤ q → h64 q = h61 q := fun q hq => (congrFun eh64 q).trans ((hup_n (by omega)).trans (fz_ q hq))
        clear ho__42 r__33 n57__1 fr__42 fl__30 fz_ eh64
        refine g_iinc k (lv2 := [(0, .ref a), (1, vi ((i : Int) + 1))]) rfl (by decide) rfl rfl dX9_init_65 ?_
        refine g_goto k (tgt := 47) dX9_init_68 (by decide) ?_
        refine g_nx (c2 := 43 + 4 * (i + 1)) (s2 := 902 + 89 * (i + 1)) (n2 := a + 44 + 4 * (i + 1)) (by omega) (by omega) (by omega) ?_
        exact ih47 (i + 1) (fu f i (some (a + 44 + 4 * i))) h64 ho__43 r__34 fr__43 (by omega) (hF0.keep (fun q g1 g2 => fl__31 q (by omega))) (hM0.keep (fun q g1 g2 => fl__31 q (by omega))) (hP0.keep (fun q g1 g2 => fl__31 q (by omega))) (fun j hj => by
              by_cases e : j = i
              · subst e; exact ⟨fu_s, p61.keep (fun q g1 g2 => fz__1 q (by omega))⟩
              · exact ⟨(fu_n e).trans (hf j (by omega)).1, (hf j (by omega)).2.keep (fun q g1 g2 => fl__31 q (by omega))⟩) (by omega)
  refine g_nx (c2 := 43 + 4 * 0) (s2 := 902 + 89 * 0) (n2 := a + 44 + 4 * 0) (by omega) (by omega) (by omega) ?_
  exact K47 _ 0 (fun _ => (none : Option Nat)) h42 ho__10 r__1 fr__10 (by omega) (p9.keep (fun q g1 g2 => m1__9 q (by omega))) (p20.keep (fun q g1 g2 => m2__6 q (by omega))) (p31.keep (fun q g1 g2 => pp__3 q (by omega))) (fun j hj => absurd hj (Nat.not_lt_zero j)) (Nat.lt_succ_self _)

