/-! the constructors of the class's parts -/
section GI
variable {G : Gx} {X : Cx} {own nm : String} {cc : ByteArray} {nL lev MC MS : Nat} {ret : Option FieldType} {Q : State → Prop} {cells slots nx pc : Nat} {lv : List (Nat × Value)} {st : List Value} {h : Hp}
variable {y : MethodName} {bytes : ByteArray} {maxL n lev2 mc ms index : Nat} {As rest : List Value} {P : Hp → Prop}
theorem nea {a i j : Nat} (h : i ≠ j) : a + i ≠ a + j := by omega
theorem nea0 {a i : Nat} (h : i ≠ 0) : a + i ≠ a := by omega
theorem nea1 {a i : Nat} (h : i ≠ 0) : a ≠ a + i := by omega
theorem g_nx {c2 s2 n2 : Nat} (hc : cells = c2) (hs : slots = s2) (hn : nx = n2) (kk : Go G X nL Q c2 s2 n2 pc lv st h) : Go G X nL Q cells slots nx pc lv st h := by
  subst hc
  subst hs
  subst hn
  exact kk
theorem g_cI (k : Ok G X own nm cc nL ret lev MC MS) {b : Nat} (v : NO1 y bytes maxL n) (hml2 : Cond.methodLink own index y ∈ TB) (cn : Con G y bytes maxL none lev2 mc ms (.ref b :: As) h nx (PV P)) (hlev : lev2 + 1 ≤ lev) (hroom : cells + mc ≤ MC ∧ slots + ms ≤ MS) (hn : As.length = n) (hW : (rest.map fun v => v.category).sum ≤ 8) (hst : st = As.reverse ++ .ref b :: rest) (d : decode cc pc = .ok (.invokespecial index, 3)) (kk : ∀ h' : Hp, P h' → Go G X nL Q (cells + mc) (slots + ms) (nx + mc) (pc + 3) lv rest h') : Go G X nL Q cells slots nx pc lv st h := by
  refine g_callI k v hml2 cn hlev hroom hn hW hst d (fun w h' hp => ?_)
  obtain ⟨e, hp⟩ := hp
  subst e
  exact kk h' hp
theorem g_cN (k : Ok G X own nm cc nL ret lev MC MS) {b : Nat} {host : String} (v : NO1 y bytes maxL n) (hml2 : ∀ U : State, NW U → va_Nw (.methodLinkNest own index y host) U) (cn : Con G y bytes maxL none lev2 mc ms (.ref b :: As) h nx (PV P)) (hlev : lev2 + 1 ≤ lev) (hroom : cells + mc ≤ MC ∧ slots + ms ≤ MS) (hn : As.length = n) (hW : (rest.map fun v => v.category).sum ≤ 8) (hst : st = As.reverse ++ .ref b :: rest) (d : decode cc pc = .ok (.invokespecial index, 3)) (kk : ∀ h' : Hp, P h' → Go G X nL Q (cells + mc) (slots + ms) (nx + mc) (pc + 3) lv rest h') : Go G X nL Q cells slots nx pc lv st h := by
  refine g_callN k v hml2 cn hlev hroom hn hW hst d (fun w h' hp => ?_)
  obtain ⟨e, hp⟩ := hp
  subst e
  exact kk h' hp
end GI
theorem dv_X0 : ∀ j, j < 5 → defaultValue (tyX0 j) = vp_V [vi 0, vi 0, .null, .null, .null] j
  | 0, _ => rfl
  | 1, _ => rfl
  | 2, _ => rfl
  | 3, _ => rfl
  | 4, _ => rfl
  | n + 5, h => absurd h (by omega)
theorem dv_X1 : ∀ j, j < 8 → defaultValue (tyX1 j) = vp_V [vi 0, vi 0, .null, .null, vi 0, .null, .null, .null] j
  | 0, _ => rfl
  | 1, _ => rfl
  | 2, _ => rfl
  | 3, _ => rfl
  | 4, _ => rfl
  | 5, _ => rfl
  | 6, _ => rfl
  | 7, _ => rfl
  | n + 8, h => absurd h (by omega)
theorem dv_X2 : ∀ j, j < 2 → defaultValue (tyX2 j) = vp_V [vi 0, .null] j
  | 0, _ => rfl
  | 1, _ => rfl
  | n + 2, h => absurd h (by omega)
theorem dv_X3 : ∀ j, j < 2 → defaultValue (tyX3 j) = vp_V [vi 0, .null] j
  | 0, _ => rfl
  | 1, _ => rfl
  | n + 2, h => absurd h (by omega)
theorem dv_X4 : ∀ j, j < 11 → defaultValue (tyX4 j) = vp_V [vi 0, .null, vi 0, vi 0, vi 0, vi 0, vi 0, vl 0, .null, .null, .null] j
  | 0, _ => rfl
  | 1, _ => rfl
  | 2, _ => rfl
  | 3, _ => rfl
  | 4, _ => rfl
  | 5, _ => rfl
  | 6, _ => rfl
  | 7, _ => rfl
  | 8, _ => rfl
  | 9, _ => rfl
  | 10, _ => rfl
  | n + 11, h => absurd h (by omega)
theorem dv_X5 : ∀ j, j < 6 → defaultValue (tyX5 j) = vp_V [vi 0, vi 0, vi 0, vi 0, .null, .null] j
  | 0, _ => rfl
  | 1, _ => rfl
  | 2, _ => rfl
  | 3, _ => rfl
  | 4, _ => rfl
  | 5, _ => rfl
  | n + 6, h => absurd h (by omega)
theorem dv_X6 : ∀ j, j < 1 → defaultValue (tyX6 j) = vp_V [.null] j
  | 0, _ => rfl
  | n + 1, h => absurd h (by omega)
theorem dv_X7 : ∀ j, j < 2 → defaultValue (tyX7 j) = vp_V [vi 0, .null] j
  | 0, _ => rfl
  | 1, _ => rfl
  | n + 2, h => absurd h (by omega)
theorem dv_X8 : ∀ j, j < 4 → defaultValue (tyX8 j) = vp_V [vi 0, .null, .null, .null] j
  | 0, _ => rfl
  | 1, _ => rfl
  | 2, _ => rfl
  | 3, _ => rfl
  | n + 4, h => absurd h (by omega)
theorem dv_X9 : ∀ j, j < 15 → defaultValue (tyX9 j) = vp_V [.null, .null, .null, .null, .null, .null, .null, .null, .null, .null, .null, .null, .null, .null, vi 0] j
  | 0, _ => rfl
  | 1, _ => rfl
  | 2, _ => rfl
  | 3, _ => rfl
  | 4, _ => rfl
  | 5, _ => rfl
  | 6, _ => rfl
  | 7, _ => rfl
  | 8, _ => rfl
  | 9, _ => rfl
  | 10, _ => rfl
  | 11, _ => rfl
  | 12, _ => rfl
  | 13, _ => rfl
  | 14, _ => rfl
  | n + 15, h => absurd h (by omega)
theorem dv_X10 : ∀ j, j < 38 → defaultValue (tyX10 j) = vp_V [vi 0, .null, vi 0, vi 0, vi 0, vi 0, vi 0, vi 0, vi 0, vl 0, .null, .null, .null, .null, .null, .null, .null, .null, .null, vi 0, .null, .null, .null, .null, vi 0, vi 0, vi 0, vi 0, vi 0, vi 0, vi 0, vi 0, .null, vi 0, vi 0, .null, .null, vi 0] j
  | 0, _ => rfl
  | 1, _ => rfl
  | 2, _ => rfl
  | 3, _ => rfl
  | 4, _ => rfl
  | 5, _ => rfl
  | 6, _ => rfl
  | 7, _ => rfl
  | 8, _ => rfl
  | 9, _ => rfl
  | 10, _ => rfl
  | 11, _ => rfl
  | 12, _ => rfl
  | 13, _ => rfl
  | 14, _ => rfl
  | 15, _ => rfl
  | 16, _ => rfl
  | 17, _ => rfl
  | 18, _ => rfl
  | 19, _ => rfl
  | 20, _ => rfl
  | 21, _ => rfl
  | 22, _ => rfl
  | 23, _ => rfl
  | 24, _ => rfl
  | 25, _ => rfl
  | 26, _ => rfl
  | 27, _ => rfl
  | 28, _ => rfl
  | 29, _ => rfl
  | 30, _ => rfl
  | 31, _ => rfl
  | 32, _ => rfl
  | 33, _ => rfl
  | 34, _ => rfl
  | 35, _ => rfl
  | 36, _ => rfl
  | 37, _ => rfl
  | n + 38, h => absurd h (by omega)
set_option maxHeartbeats 600000 in
set_option maxRecDepth 100000 in
theorem n_X0 {G : Gx} {h : Hp} {a : Nat} (ho : h a = some (ob 0 [vi 0, vi 0, .null, .null, .null])) : Con G yX0_init cX0_init 1 none 1 3 84 [.ref a] h (a + 1) (PV (fun h' => FC G h' a 0 0 (fun _ => (0 : Int)) (fun _ => (0 : Int)) (fun _ => (0 : Int)) ∧ (∀ q : Nat, q < a → h' q = h q))) := by
  refine Con.of v_X0_init.2.2.2.2.1 (Nat.le_of_ble_eq_true rfl) (lv := [(0, .ref a)]) rfl (fun X k => ?_)
  generalize hQQ : QM G X (a + 1) 3 84 _ = QQ
  have fr0 : ∀ q : Nat, q < a → h q = h q := fun _ _ => rfl
  refine g_aload_n k rfl dX0_init_0 ?_
  refine g_objInit k ml_X0_3 (by omega) (Nat.le_of_ble_eq_true rfl) dX0_init_1 ?_
  refine g_aload_n k rfl dX0_init_4 ?_
  refine g_bipush k rfl dX0_init_5 ?_
  refine g_newi k (n := 28) (by decide) (by decide) ac_int (by omega) (by omega) dX0_init_7 (fun h7 eh7 => ?_)
  have ho_ : h7 a = some (ob 0 [vi 0, vi 0, .null, .null, .null]) := (congrFun eh7 _).trans ((hup_n (by first | exact nea (by decide) | exact nea0 (by decide) | exact nea1 (by decide) | omega)).trans ho)
  have fr_ : ∀ q : Nat, q < a → h7 q = h q := fun q hq => (congrFun eh7 q).trans ((hup_n (by omega)).trans (fr0 q hq))
  have n7_ : h7 (a + 1) = some (ai G 28 (fun _ => (0 : Int))) := (congrFun eh7 _).trans hup_s
  clear ho fr0 eh7
  refine g_nx (c2 := 1) (s2 := 28) (n2 := a + 2) (by omega) (by omega) (by omega) ?_
  refine g_putF k 0 2 (C := RX0) (T := TX0) (N := 5) fl_X0_9 rfl wi_X0 tyX0 tyX0_ok nmX0 (by decide) rfl rfl rfl rfl ho_ (Nat.le_of_ble_eq_true rfl) (fs2 := [vi 0, vi 0, .ref (a + 1), .null, .null]) rfl rfl rfl rfl dX0_init_9 (fun h9 eh9 => ?_)
  have ho__1 : h9 a = some (ob 0 [vi 0, vi 0, .ref (a + 1), .null, .null]) := (congrFun eh9 _).trans hup_s
  have n7__1 : h9 (a + 1) = some (ai G 28 (fun _ => (0 : Int))) := (congrFun eh9 _).trans ((hup_n (by first | exact nea (by decide) | exact nea0 (by decide) | exact nea1 (by decide) | omega)).trans n7_)
  have fr__1 : ∀ q : Nat, q < a → h9 q = h q := fun q hq => (congrFun eh9 q).trans ((hup_n (by omega)).trans (fr_ q hq))
  clear ho_ n7_ fr_ eh9
  refine g_aload_n k rfl dX0_init_12 ?_
  refine g_bipush k rfl dX0_init_13 ?_
  refine g_newi k (n := 28) (by decide) (by decide) ac_int (by omega) (by omega) dX0_init_15 (fun h15 eh15 => ?_)
  have ho__2 : h15 a = some (ob 0 [vi 0, vi 0, .ref (a + 1), .null, .null]) := (congrFun eh15 _).trans ((hup_n (by first | exact nea (by decide) | exact nea0 (by decide) | exact nea1 (by decide) | omega)).trans ho__1)
  have n7__2 : h15 (a + 1) = some (ai G 28 (fun _ => (0 : Int))) := (congrFun eh15 _).trans ((hup_n (by first | exact nea (by decide) | exact nea0 (by decide) | exact nea1 (by decide) | omega)).trans n7__1)
  have fr__2 : ∀ q : Nat, q < a → h15 q = h q := fun q hq => (congrFun eh15 q).trans ((hup_n (by omega)).trans (fr__1 q hq))
  have n15_ : h15 (a + 2) = some (ai G 28 (fun _ => (0 : Int))) := (congrFun eh15 _).trans hup_s
  clear ho__1 n7__1 fr__1 eh15
  refine g_nx (c2 := 2) (s2 := 56) (n2 := a + 3) (by omega) (by omega) (by omega) ?_
  refine g_putF k 0 3 (C := RX0) (T := TX0) (N := 5) fl_X0_15 rfl wi_X0 tyX0 tyX0_ok nmX0 (by decide) rfl rfl rfl rfl ho__2 (Nat.le_of_ble_eq_true rfl) (fs2 := [vi 0, vi 0, .ref (a + 1), .ref (a + 2), .null]) rfl rfl rfl rfl dX0_init_17 (fun h17 eh17 => ?_)
  have ho__3 : h17 a = some (ob 0 [vi 0, vi 0, .ref (a + 1), .ref (a + 2), .null]) := (congrFun eh17 _).trans hup_s
  have n7__3 : h17 (a + 1) = some (ai G 28 (fun _ => (0 : Int))) := (congrFun eh17 _).trans ((hup_n (by first | exact nea (by decide) | exact nea0 (by decide) | exact nea1 (by decide) | omega)).trans n7__2)
  have n15__1 : h17 (a + 2) = some (ai G 28 (fun _ => (0 : Int))) := (congrFun eh17 _).trans ((hup_n (by first | exact nea (by decide) | exact nea0 (by decide) | exact nea1 (by decide) | omega)).trans n15_)
  have fr__3 : ∀ q : Nat, q < a → h17 q = h q := fun q hq => (congrFun eh17 q).trans ((hup_n (by omega)).trans (fr__2 q hq))
  clear ho__2 n7__2 n15_ fr__2 eh17
  refine g_aload_n k rfl dX0_init_20 ?_
  refine g_bipush k rfl dX0_init_21 ?_
  refine g_newi k (n := 28) (by decide) (by decide) ac_int (by omega) (by omega) dX0_init_23 (fun h23 eh23 => ?_)
  have ho__4 : h23 a = some (ob 0 [vi 0, vi 0, .ref (a + 1), .ref (a + 2), .null]) := (congrFun eh23 _).trans ((hup_n (by first | exact nea (by decide) | exact nea0 (by decide) | exact nea1 (by decide) | omega)).trans ho__3)
  have n7__4 : h23 (a + 1) = some (ai G 28 (fun _ => (0 : Int))) := (congrFun eh23 _).trans ((hup_n (by first | exact nea (by decide) | exact nea0 (by decide) | exact nea1 (by decide) | omega)).trans n7__3)
  have n15__2 : h23 (a + 2) = some (ai G 28 (fun _ => (0 : Int))) := (congrFun eh23 _).trans ((hup_n (by first | exact nea (by decide) | exact nea0 (by decide) | exact nea1 (by decide) | omega)).trans n15__1)
  have fr__4 : ∀ q : Nat, q < a → h23 q = h q := fun q hq => (congrFun eh23 q).trans ((hup_n (by omega)).trans (fr__3 q hq))
  have n23_ : h23 (a + 3) = some (ai G 28 (fun _ => (0 : Int))) := (congrFun eh23 _).trans hup_s
  clear ho__3 n7__3 n15__1 fr__3 eh23
  refine g_nx (c2 := 3) (s2 := 84) (n2 := a + 4) (by omega) (by omega) (by omega) ?_
  refine g_putF k 0 4 (C := RX0) (T := TX0) (N := 5) fl_X0_18 rfl wi_X0 tyX0 tyX0_ok nmX0 (by decide) rfl rfl rfl rfl ho__4 (Nat.le_of_ble_eq_true rfl) (fs2 := [vi 0, vi 0, .ref (a + 1), .ref (a + 2), .ref (a + 3)]) rfl rfl rfl rfl dX0_init_25 (fun h25 eh25 => ?_)
  have ho__5 : h25 a = some (ob 0 [vi 0, vi 0, .ref (a + 1), .ref (a + 2), .ref (a + 3)]) := (congrFun eh25 _).trans hup_s
  have n7__5 : h25 (a + 1) = some (ai G 28 (fun _ => (0 : Int))) := (congrFun eh25 _).trans ((hup_n (by first | exact nea (by decide) | exact nea0 (by decide) | exact nea1 (by decide) | omega)).trans n7__4)
  have n15__3 : h25 (a + 2) = some (ai G 28 (fun _ => (0 : Int))) := (congrFun eh25 _).trans ((hup_n (by first | exact nea (by decide) | exact nea0 (by decide) | exact nea1 (by decide) | omega)).trans n15__2)
  have n23__1 : h25 (a + 3) = some (ai G 28 (fun _ => (0 : Int))) := (congrFun eh25 _).trans ((hup_n (by first | exact nea (by decide) | exact nea0 (by decide) | exact nea1 (by decide) | omega)).trans n23_)
  have fr__5 : ∀ q : Nat, q < a → h25 q = h q := fun q hq => (congrFun eh25 q).trans ((hup_n (by omega)).trans (fr__4 q hq))
  clear ho__4 n7__4 n15__2 n23_ fr__4 eh25
  rw [← hQQ]
  refine g_retv k rfl dX0_init_28 ?_
  exact ⟨⟨ho__5, n7__5, n15__3, n23__1⟩, fr__5⟩

set_option maxHeartbeats 600000 in
set_option maxRecDepth 100000 in
theorem n_X3 {G : Gx} {h : Hp} {a : Nat} (ho : h a = some (ob 3 [vi 0, .null])) : Con G yX3_init cX3_init 1 none 1 1 64 [.ref a] h (a + 1) (PV (fun h' => RA G h' a 0 (fun _ => (0 : Int)) ∧ (∀ q : Nat, q < a → h' q = h q))) := by
  refine Con.of v_X3_init.2.2.2.2.1 (Nat.le_of_ble_eq_true rfl) (lv := [(0, .ref a)]) rfl (fun X k => ?_)
  generalize hQQ : QM G X (a + 1) 1 64 _ = QQ
  have fr0 : ∀ q : Nat, q < a → h q = h q := fun _ _ => rfl
  refine g_aload_n k rfl dX3_init_0 ?_
  refine g_objInit k ml_X3_3 (by omega) (Nat.le_of_ble_eq_true rfl) dX3_init_1 ?_
  refine g_aload_n k rfl dX3_init_4 ?_
  refine g_bipush k rfl dX3_init_5 ?_
  refine g_newi k (n := 64) (by decide) (by decide) ac_int (by omega) (by omega) dX3_init_7 (fun h7 eh7 => ?_)
  have ho_ : h7 a = some (ob 3 [vi 0, .null]) := (congrFun eh7 _).trans ((hup_n (by first | exact nea (by decide) | exact nea0 (by decide) | exact nea1 (by decide) | omega)).trans ho)
  have fr_ : ∀ q : Nat, q < a → h7 q = h q := fun q hq => (congrFun eh7 q).trans ((hup_n (by omega)).trans (fr0 q hq))
  have n7_ : h7 (a + 1) = some (ai G 64 (fun _ => (0 : Int))) := (congrFun eh7 _).trans hup_s
  clear ho fr0 eh7
  refine g_nx (c2 := 1) (s2 := 64) (n2 := a + 2) (by omega) (by omega) (by omega) ?_
  refine g_putF k 3 1 (C := RX3) (T := TX3) (N := 2) fl_X3_9 rfl wi_X3 tyX3 tyX3_ok nmX3 (by decide) rfl rfl rfl rfl ho_ (Nat.le_of_ble_eq_true rfl) (fs2 := [vi 0, .ref (a + 1)]) rfl rfl rfl rfl dX3_init_9 (fun h9 eh9 => ?_)
  have ho__1 : h9 a = some (ob 3 [vi 0, .ref (a + 1)]) := (congrFun eh9 _).trans hup_s
  have n7__1 : h9 (a + 1) = some (ai G 64 (fun _ => (0 : Int))) := (congrFun eh9 _).trans ((hup_n (by first | exact nea (by decide) | exact nea0 (by decide) | exact nea1 (by decide) | omega)).trans n7_)
  have fr__1 : ∀ q : Nat, q < a → h9 q = h q := fun q hq => (congrFun eh9 q).trans ((hup_n (by omega)).trans (fr_ q hq))
  clear ho_ n7_ fr_ eh9
  rw [← hQQ]
  refine g_retv k rfl dX3_init_12 ?_
  exact ⟨⟨ho__1, n7__1⟩, fr__1⟩

set_option maxHeartbeats 600000 in
set_option maxRecDepth 100000 in
theorem n_X5 {G : Gx} {h : Hp} {a : Nat} (ho : h a = some (ob 5 [vi 0, vi 0, vi 0, vi 0, .null, .null])) : Con G yX5_init cX5_init 1 none 1 2 72 [.ref a] h (a + 1) (PV (fun h' => GA G h' a 0 0 0 0 (fun _ => (0 : Int)) (fun _ => (0 : Int)) ∧ (∀ q : Nat, q < a → h' q = h q))) := by
  refine Con.of v_X5_init.2.2.2.2.1 (Nat.le_of_ble_eq_true rfl) (lv := [(0, .ref a)]) rfl (fun X k => ?_)
  generalize hQQ : QM G X (a + 1) 2 72 _ = QQ
  have fr0 : ∀ q : Nat, q < a → h q = h q := fun _ _ => rfl
  refine g_aload_n k rfl dX5_init_0 ?_
  refine g_objInit k ml_X5_3 (by omega) (Nat.le_of_ble_eq_true rfl) dX5_init_1 ?_
  refine g_aload_n k rfl dX5_init_4 ?_
  refine g_bipush k rfl dX5_init_5 ?_
  refine g_newi k (n := 8) (by decide) (by decide) ac_int (by omega) (by omega) dX5_init_7 (fun h7 eh7 => ?_)
  have ho_ : h7 a = some (ob 5 [vi 0, vi 0, vi 0, vi 0, .null, .null]) := (congrFun eh7 _).trans ((hup_n (by first | exact nea (by decide) | exact nea0 (by decide) | exact nea1 (by decide) | omega)).trans ho)
  have fr_ : ∀ q : Nat, q < a → h7 q = h q := fun q hq => (congrFun eh7 q).trans ((hup_n (by omega)).trans (fr0 q hq))
  have n7_ : h7 (a + 1) = some (ai G 8 (fun _ => (0 : Int))) := (congrFun eh7 _).trans hup_s
  clear ho fr0 eh7
  refine g_nx (c2 := 1) (s2 := 8) (n2 := a + 2) (by omega) (by omega) (by omega) ?_
  refine g_putF k 5 4 (C := RX5) (T := TX5) (N := 6) fl_X5_9 rfl wi_X5 tyX5 tyX5_ok nmX5 (by decide) rfl rfl rfl rfl ho_ (Nat.le_of_ble_eq_true rfl) (fs2 := [vi 0, vi 0, vi 0, vi 0, .ref (a + 1), .null]) rfl rfl rfl rfl dX5_init_9 (fun h9 eh9 => ?_)
  have ho__1 : h9 a = some (ob 5 [vi 0, vi 0, vi 0, vi 0, .ref (a + 1), .null]) := (congrFun eh9 _).trans hup_s
  have n7__1 : h9 (a + 1) = some (ai G 8 (fun _ => (0 : Int))) := (congrFun eh9 _).trans ((hup_n (by first | exact nea (by decide) | exact nea0 (by decide) | exact nea1 (by decide) | omega)).trans n7_)
  have fr__1 : ∀ q : Nat, q < a → h9 q = h q := fun q hq => (congrFun eh9 q).trans ((hup_n (by omega)).trans (fr_ q hq))
  clear ho_ n7_ fr_ eh9
  refine g_aload_n k rfl dX5_init_12 ?_
  refine g_bipush k rfl dX5_init_13 ?_
  refine g_newi k (n := 64) (by decide) (by decide) ac_int (by omega) (by omega) dX5_init_15 (fun h15 eh15 => ?_)
  have ho__2 : h15 a = some (ob 5 [vi 0, vi 0, vi 0, vi 0, .ref (a + 1), .null]) := (congrFun eh15 _).trans ((hup_n (by first | exact nea (by decide) | exact nea0 (by decide) | exact nea1 (by decide) | omega)).trans ho__1)
  have n7__2 : h15 (a + 1) = some (ai G 8 (fun _ => (0 : Int))) := (congrFun eh15 _).trans ((hup_n (by first | exact nea (by decide) | exact nea0 (by decide) | exact nea1 (by decide) | omega)).trans n7__1)
  have fr__2 : ∀ q : Nat, q < a → h15 q = h q := fun q hq => (congrFun eh15 q).trans ((hup_n (by omega)).trans (fr__1 q hq))
  have n15_ : h15 (a + 2) = some (ai G 64 (fun _ => (0 : Int))) := (congrFun eh15 _).trans hup_s
  clear ho__1 n7__1 fr__1 eh15
  refine g_nx (c2 := 2) (s2 := 72) (n2 := a + 3) (by omega) (by omega) (by omega) ?_
  refine g_putF k 5 5 (C := RX5) (T := TX5) (N := 6) fl_X5_15 rfl wi_X5 tyX5 tyX5_ok nmX5 (by decide) rfl rfl rfl rfl ho__2 (Nat.le_of_ble_eq_true rfl) (fs2 := [vi 0, vi 0, vi 0, vi 0, .ref (a + 1), .ref (a + 2)]) rfl rfl rfl rfl dX5_init_17 (fun h17 eh17 => ?_)
  have ho__3 : h17 a = some (ob 5 [vi 0, vi 0, vi 0, vi 0, .ref (a + 1), .ref (a + 2)]) := (congrFun eh17 _).trans hup_s
  have n7__3 : h17 (a + 1) = some (ai G 8 (fun _ => (0 : Int))) := (congrFun eh17 _).trans ((hup_n (by first | exact nea (by decide) | exact nea0 (by decide) | exact nea1 (by decide) | omega)).trans n7__2)
  have n15__1 : h17 (a + 2) = some (ai G 64 (fun _ => (0 : Int))) := (congrFun eh17 _).trans ((hup_n (by first | exact nea (by decide) | exact nea0 (by decide) | exact nea1 (by decide) | omega)).trans n15_)
  have fr__3 : ∀ q : Nat, q < a → h17 q = h q := fun q hq => (congrFun eh17 q).trans ((hup_n (by omega)).trans (fr__2 q hq))
  clear ho__2 n7__2 n15_ fr__2 eh17
  rw [← hQQ]
  refine g_retv k rfl dX5_init_20 ?_
  exact ⟨⟨ho__3, n7__3, n15__1⟩, fr__3⟩

set_option maxHeartbeats 600000 in
set_option maxRecDepth 100000 in
theorem n_X6 {G : Gx} {h : Hp} {a : Nat} (ho : h a = some (ob 6 [.null])) : Con G yX6_init cX6_init 1 none 1 1 169 [.ref a] h (a + 1) (PV (fun h' => TS G h' a (fun _ => (0 : Int)) ∧ (∀ q : Nat, q < a → h' q = h q))) := by
  refine Con.of v_X6_init.2.2.2.2.1 (Nat.le_of_ble_eq_true rfl) (lv := [(0, .ref a)]) rfl (fun X k => ?_)
  generalize hQQ : QM G X (a + 1) 1 169 _ = QQ
  have fr0 : ∀ q : Nat, q < a → h q = h q := fun _ _ => rfl
  refine g_aload_n k rfl dX6_init_0 ?_
  refine g_objInit k ml_X6_3 (by omega) (Nat.le_of_ble_eq_true rfl) dX6_init_1 ?_
  refine g_aload_n k rfl dX6_init_4 ?_
  refine g_sipush k rfl dX6_init_5 ?_
  refine g_newi k (n := 169) (by decide) (by decide) ac_int (by omega) (by omega) dX6_init_8 (fun h8 eh8 => ?_)
  have ho_ : h8 a = some (ob 6 [.null]) := (congrFun eh8 _).trans ((hup_n (by first | exact nea (by decide) | exact nea0 (by decide) | exact nea1 (by decide) | omega)).trans ho)
  have fr_ : ∀ q : Nat, q < a → h8 q = h q := fun q hq => (congrFun eh8 q).trans ((hup_n (by omega)).trans (fr0 q hq))
  have n8_ : h8 (a + 1) = some (ai G 169 (fun _ => (0 : Int))) := (congrFun eh8 _).trans hup_s
  clear ho fr0 eh8
  refine g_nx (c2 := 1) (s2 := 169) (n2 := a + 2) (by omega) (by omega) (by omega) ?_
  refine g_putF k 6 0 (C := RX6) (T := TX6) (N := 1) fl_X6_9 rfl wi_X6 tyX6 tyX6_ok nmX6 (by decide) rfl rfl rfl rfl ho_ (Nat.le_of_ble_eq_true rfl) (fs2 := [.ref (a + 1)]) rfl rfl rfl rfl dX6_init_10 (fun h10 eh10 => ?_)
  have ho__1 : h10 a = some (ob 6 [.ref (a + 1)]) := (congrFun eh10 _).trans hup_s
  have n8__1 : h10 (a + 1) = some (ai G 169 (fun _ => (0 : Int))) := (congrFun eh10 _).trans ((hup_n (by first | exact nea (by decide) | exact nea0 (by decide) | exact nea1 (by decide) | omega)).trans n8_)
  have fr__1 : ∀ q : Nat, q < a → h10 q = h q := fun q hq => (congrFun eh10 q).trans ((hup_n (by omega)).trans (fr_ q hq))
  clear ho_ n8_ fr_ eh10
  rw [← hQQ]
  refine g_retv k rfl dX6_init_13 ?_
  exact ⟨⟨ho__1, n8__1⟩, fr__1⟩

set_option maxHeartbeats 600000 in
set_option maxRecDepth 100000 in
theorem n_X7 {G : Gx} {h : Hp} {a : Nat} (ho : h a = some (ob 7 [vi 0, .null])) : Con G yX7_init cX7_init 1 none 1 1 740 [.ref a] h (a + 1) (PV (fun h' => TA G h' a 0 (fun _ => (0 : Int)) ∧ (∀ q : Nat, q < a → h' q = h q))) := by
  refine Con.of v_X7_init.2.2.2.2.1 (Nat.le_of_ble_eq_true rfl) (lv := [(0, .ref a)]) rfl (fun X k => ?_)
  generalize hQQ : QM G X (a + 1) 1 740 _ = QQ
  have fr0 : ∀ q : Nat, q < a → h q = h q := fun _ _ => rfl
  refine g_aload_n k rfl dX7_init_0 ?_
  refine g_objInit k ml_X7_1 (by omega) (Nat.le_of_ble_eq_true rfl) dX7_init_1 ?_
  refine g_aload_n k rfl dX7_init_4 ?_
  refine g_sipush k rfl dX7_init_5 ?_
  refine g_newi k (n := 740) (by decide) (by decide) ac_int (by omega) (by omega) dX7_init_8 (fun h8 eh8 => ?_)
  have ho_ : h8 a = some (ob 7 [vi 0, .null]) := (congrFun eh8 _).trans ((hup_n (by first | exact nea (by decide) | exact nea0 (by decide) | exact nea1 (by decide) | omega)).trans ho)
  have fr_ : ∀ q : Nat, q < a → h8 q = h q := fun q hq => (congrFun eh8 q).trans ((hup_n (by omega)).trans (fr0 q hq))
  have n8_ : h8 (a + 1) = some (ai G 740 (fun _ => (0 : Int))) := (congrFun eh8 _).trans hup_s
  clear ho fr0 eh8
  refine g_nx (c2 := 1) (s2 := 740) (n2 := a + 2) (by omega) (by omega) (by omega) ?_
  refine g_putF k 7 1 (C := RX7) (T := TX7) (N := 2) fl_X7_9 rfl wi_X7 tyX7 tyX7_ok nmX7 (by decide) rfl rfl rfl rfl ho_ (Nat.le_of_ble_eq_true rfl) (fs2 := [vi 0, .ref (a + 1)]) rfl rfl rfl rfl dX7_init_10 (fun h10 eh10 => ?_)
  have ho__1 : h10 a = some (ob 7 [vi 0, .ref (a + 1)]) := (congrFun eh10 _).trans hup_s
  have n8__1 : h10 (a + 1) = some (ai G 740 (fun _ => (0 : Int))) := (congrFun eh10 _).trans ((hup_n (by first | exact nea (by decide) | exact nea0 (by decide) | exact nea1 (by decide) | omega)).trans n8_)
  have fr__1 : ∀ q : Nat, q < a → h10 q = h q := fun q hq => (congrFun eh10 q).trans ((hup_n (by omega)).trans (fr_ q hq))
  clear ho_ n8_ fr_ eh10
  rw [← hQQ]
  refine g_retv k rfl dX7_init_13 ?_
  exact ⟨⟨ho__1, n8__1⟩, fr__1⟩

set_option maxHeartbeats 600000 in
set_option maxRecDepth 100000 in
theorem n_X1 {G : Gx} {h : Hp} {a : Nat} (ho : h a = some (ob 1 [vi 0, vi 0, .null, .null, vi 0, .null, .null, .null])) : Con G yX1_init cX1_init 1 none 2 6 98 [.ref a] h (a + 1) (PV (fun h' => (OA G h' a 0 0 0 (fun _ => (0 : Int)) (fun _ => (0 : Int)) (fun _ => (0 : Int)) (fun _ => (0 : Int)) ∧ RA G h' (a + 5) 0 (fun _ => (0 : Int))) ∧ (∀ q : Nat, q < a → h' q = h q))) := by
  refine Con.of v_X1_init.2.2.2.2.1 (Nat.le_of_ble_eq_true rfl) (lv := [(0, .ref a)]) rfl (fun X k => ?_)
  generalize hQQ : QM G X (a + 1) 6 98 _ = QQ
  have fr0 : ∀ q : Nat, q < a → h q = h q := fun _ _ => rfl
  refine g_aload_n k rfl dX1_init_0 ?_
  refine g_objInit k ml_X1_3 (by omega) (Nat.le_of_ble_eq_true rfl) dX1_init_1 ?_
  refine g_aload_n k rfl dX1_init_4 ?_
  refine g_bipush k rfl dX1_init_5 ?_
  refine g_newi k (n := 8) (by decide) (by decide) ac_int (by omega) (by omega) dX1_init_7 (fun h7 eh7 => ?_)
  have ho_ : h7 a = some (ob 1 [vi 0, vi 0, .null, .null, vi 0, .null, .null, .null]) := (congrFun eh7 _).trans ((hup_n (by first | exact nea (by decide) | exact nea0 (by decide) | exact nea1 (by decide) | omega)).trans ho)
  have fr_ : ∀ q : Nat, q < a → h7 q = h q := fun q hq => (congrFun eh7 q).trans ((hup_n (by omega)).trans (fr0 q hq))
  have n7_ : h7 (a + 1) = some (ai G 8 (fun _ => (0 : Int))) := (congrFun eh7 _).trans hup_s
  clear ho fr0 eh7
  refine g_nx (c2 := 1) (s2 := 8) (n2 := a + 2) (by omega) (by omega) (by omega) ?_
  refine g_putF k 1 2 (C := RX1) (T := TX1) (N := 8) fl_X1_9 rfl wi_X1 tyX1 tyX1_ok nmX1 (by decide) rfl rfl rfl rfl ho_ (Nat.le_of_ble_eq_true rfl) (fs2 := [vi 0, vi 0, .ref (a + 1), .null, vi 0, .null, .null, .null]) rfl rfl rfl rfl dX1_init_9 (fun h9 eh9 => ?_)
  have ho__1 : h9 a = some (ob 1 [vi 0, vi 0, .ref (a + 1), .null, vi 0, .null, .null, .null]) := (congrFun eh9 _).trans hup_s
  have n7__1 : h9 (a + 1) = some (ai G 8 (fun _ => (0 : Int))) := (congrFun eh9 _).trans ((hup_n (by first | exact nea (by decide) | exact nea0 (by decide) | exact nea1 (by decide) | omega)).trans n7_)
  have fr__1 : ∀ q : Nat, q < a → h9 q = h q := fun q hq => (congrFun eh9 q).trans ((hup_n (by omega)).trans (fr_ q hq))
  clear ho_ n7_ fr_ eh9
  refine g_aload_n k rfl dX1_init_12 ?_
  refine g_bipush k rfl dX1_init_13 ?_
  refine g_newi k (n := 8) (by decide) (by decide) ac_int (by omega) (by omega) dX1_init_15 (fun h15 eh15 => ?_)
  have ho__2 : h15 a = some (ob 1 [vi 0, vi 0, .ref (a + 1), .null, vi 0, .null, .null, .null]) := (congrFun eh15 _).trans ((hup_n (by first | exact nea (by decide) | exact nea0 (by decide) | exact nea1 (by decide) | omega)).trans ho__1)
  have n7__2 : h15 (a + 1) = some (ai G 8 (fun _ => (0 : Int))) := (congrFun eh15 _).trans ((hup_n (by first | exact nea (by decide) | exact nea0 (by decide) | exact nea1 (by decide) | omega)).trans n7__1)
  have fr__2 : ∀ q : Nat, q < a → h15 q = h q := fun q hq => (congrFun eh15 q).trans ((hup_n (by omega)).trans (fr__1 q hq))
  have n15_ : h15 (a + 2) = some (ai G 8 (fun _ => (0 : Int))) := (congrFun eh15 _).trans hup_s
  clear ho__1 n7__1 fr__1 eh15
  refine g_nx (c2 := 2) (s2 := 16) (n2 := a + 3) (by omega) (by omega) (by omega) ?_
  refine g_putF k 1 3 (C := RX1) (T := TX1) (N := 8) fl_X1_15 rfl wi_X1 tyX1 tyX1_ok nmX1 (by decide) rfl rfl rfl rfl ho__2 (Nat.le_of_ble_eq_true rfl) (fs2 := [vi 0, vi 0, .ref (a + 1), .ref (a + 2), vi 0, .null, .null, .null]) rfl rfl rfl rfl dX1_init_17 (fun h17 eh17 => ?_)
  have ho__3 : h17 a = some (ob 1 [vi 0, vi 0, .ref (a + 1), .ref (a + 2), vi 0, .null, .null, .null]) := (congrFun eh17 _).trans hup_s
  have n7__3 : h17 (a + 1) = some (ai G 8 (fun _ => (0 : Int))) := (congrFun eh17 _).trans ((hup_n (by first | exact nea (by decide) | exact nea0 (by decide) | exact nea1 (by decide) | omega)).trans n7__2)
  have n15__1 : h17 (a + 2) = some (ai G 8 (fun _ => (0 : Int))) := (congrFun eh17 _).trans ((hup_n (by first | exact nea (by decide) | exact nea0 (by decide) | exact nea1 (by decide) | omega)).trans n15_)
  have fr__3 : ∀ q : Nat, q < a → h17 q = h q := fun q hq => (congrFun eh17 q).trans ((hup_n (by omega)).trans (fr__2 q hq))
  clear ho__2 n7__2 n15_ fr__2 eh17
  refine g_aload_n k rfl dX1_init_20 ?_
  refine g_bipush k rfl dX1_init_21 ?_
  refine g_newi k (n := 8) (by decide) (by decide) ac_int (by omega) (by omega) dX1_init_23 (fun h23 eh23 => ?_)
  have ho__4 : h23 a = some (ob 1 [vi 0, vi 0, .ref (a + 1), .ref (a + 2), vi 0, .null, .null, .null]) := (congrFun eh23 _).trans ((hup_n (by first | exact nea (by decide) | exact nea0 (by decide) | exact nea1 (by decide) | omega)).trans ho__3)
  have n7__4 : h23 (a + 1) = some (ai G 8 (fun _ => (0 : Int))) := (congrFun eh23 _).trans ((hup_n (by first | exact nea (by decide) | exact nea0 (by decide) | exact nea1 (by decide) | omega)).trans n7__3)
  have n15__2 : h23 (a + 2) = some (ai G 8 (fun _ => (0 : Int))) := (congrFun eh23 _).trans ((hup_n (by first | exact nea (by decide) | exact nea0 (by decide) | exact nea1 (by decide) | omega)).trans n15__1)
  have fr__4 : ∀ q : Nat, q < a → h23 q = h q := fun q hq => (congrFun eh23 q).trans ((hup_n (by omega)).trans (fr__3 q hq))
  have n23_ : h23 (a + 3) = some (ai G 8 (fun _ => (0 : Int))) := (congrFun eh23 _).trans hup_s
  clear ho__3 n7__3 n15__1 fr__3 eh23
  refine g_nx (c2 := 3) (s2 := 24) (n2 := a + 4) (by omega) (by omega) (by omega) ?_
  refine g_putF k 1 5 (C := RX1) (T := TX1) (N := 8) fl_X1_18 rfl wi_X1 tyX1 tyX1_ok nmX1 (by decide) rfl rfl rfl rfl ho__4 (Nat.le_of_ble_eq_true rfl) (fs2 := [vi 0, vi 0, .ref (a + 1), .ref (a + 2), vi 0, .ref (a + 3), .null, .null]) rfl rfl rfl rfl dX1_init_25 (fun h25 eh25 => ?_)
  have ho__5 : h25 a = some (ob 1 [vi 0, vi 0, .ref (a + 1), .ref (a + 2), vi 0, .ref (a + 3), .null, .null]) := (congrFun eh25 _).trans hup_s
  have n7__5 : h25 (a + 1) = some (ai G 8 (fun _ => (0 : Int))) := (congrFun eh25 _).trans ((hup_n (by first | exact nea (by decide) | exact nea0 (by decide) | exact nea1 (by decide) | omega)).trans n7__4)
  have n15__3 : h25 (a + 2) = some (ai G 8 (fun _ => (0 : Int))) := (congrFun eh25 _).trans ((hup_n (by first | exact nea (by decide) | exact nea0 (by decide) | exact nea1 (by decide) | omega)).trans n15__2)
  have n23__1 : h25 (a + 3) = some (ai G 8 (fun _ => (0 : Int))) := (congrFun eh25 _).trans ((hup_n (by first | exact nea (by decide) | exact nea0 (by decide) | exact nea1 (by decide) | omega)).trans n23_)
  have fr__5 : ∀ q : Nat, q < a → h25 q = h q := fun q hq => (congrFun eh25 q).trans ((hup_n (by omega)).trans (fr__4 q hq))
  clear ho__4 n7__4 n15__2 n23_ fr__4 eh25
  refine g_aload_n k rfl dX1_init_28 ?_
  refine g_bipush k rfl dX1_init_29 ?_
  refine g_newi k (n := 8) (by decide) (by decide) ac_int (by omega) (by omega) dX1_init_31 (fun h31 eh31 => ?_)
  have ho__6 : h31 a = some (ob 1 [vi 0, vi 0, .ref (a + 1), .ref (a + 2), vi 0, .ref (a + 3), .null, .null]) := (congrFun eh31 _).trans ((hup_n (by first | exact nea (by decide) | exact nea0 (by decide) | exact nea1 (by decide) | omega)).trans ho__5)
  have n7__6 : h31 (a + 1) = some (ai G 8 (fun _ => (0 : Int))) := (congrFun eh31 _).trans ((hup_n (by first | exact nea (by decide) | exact nea0 (by decide) | exact nea1 (by decide) | omega)).trans n7__5)
  have n15__4 : h31 (a + 2) = some (ai G 8 (fun _ => (0 : Int))) := (congrFun eh31 _).trans ((hup_n (by first | exact nea (by decide) | exact nea0 (by decide) | exact nea1 (by decide) | omega)).trans n15__3)
  have n23__2 : h31 (a + 3) = some (ai G 8 (fun _ => (0 : Int))) := (congrFun eh31 _).trans ((hup_n (by first | exact nea (by decide) | exact nea0 (by decide) | exact nea1 (by decide) | omega)).trans n23__1)
  have fr__6 : ∀ q : Nat, q < a → h31 q = h q := fun q hq => (congrFun eh31 q).trans ((hup_n (by omega)).trans (fr__5 q hq))
  have n31_ : h31 (a + 4) = some (ai G 8 (fun _ => (0 : Int))) := (congrFun eh31 _).trans hup_s
  clear ho__5 n7__5 n15__3 n23__1 fr__5 eh31
  refine g_nx (c2 := 4) (s2 := 32) (n2 := a + 5) (by omega) (by omega) (by omega) ?_
  refine g_putF k 1 6 (C := RX1) (T := TX1) (N := 8) fl_X1_21 rfl wi_X1 tyX1 tyX1_ok nmX1 (by decide) rfl rfl rfl rfl ho__6 (Nat.le_of_ble_eq_true rfl) (fs2 := [vi 0, vi 0, .ref (a + 1), .ref (a + 2), vi 0, .ref (a + 3), .ref (a + 4), .null]) rfl rfl rfl rfl dX1_init_33 (fun h33 eh33 => ?_)
  have ho__7 : h33 a = some (ob 1 [vi 0, vi 0, .ref (a + 1), .ref (a + 2), vi 0, .ref (a + 3), .ref (a + 4), .null]) := (congrFun eh33 _).trans hup_s
  have n7__7 : h33 (a + 1) = some (ai G 8 (fun _ => (0 : Int))) := (congrFun eh33 _).trans ((hup_n (by first | exact nea (by decide) | exact nea0 (by decide) | exact nea1 (by decide) | omega)).trans n7__6)
  have n15__5 : h33 (a + 2) = some (ai G 8 (fun _ => (0 : Int))) := (congrFun eh33 _).trans ((hup_n (by first | exact nea (by decide) | exact nea0 (by decide) | exact nea1 (by decide) | omega)).trans n15__4)
  have n23__3 : h33 (a + 3) = some (ai G 8 (fun _ => (0 : Int))) := (congrFun eh33 _).trans ((hup_n (by first | exact nea (by decide) | exact nea0 (by decide) | exact nea1 (by decide) | omega)).trans n23__2)
  have n31__1 : h33 (a + 4) = some (ai G 8 (fun _ => (0 : Int))) := (congrFun eh33 _).trans ((hup_n (by first | exact nea (by decide) | exact nea0 (by decide) | exact nea1 (by decide) | omega)).trans n31_)
  have fr__7 : ∀ q : Nat, q < a → h33 q = h q := fun q hq => (congrFun eh33 q).trans ((hup_n (by omega)).trans (fr__6 q hq))
  clear ho__6 n7__6 n15__4 n23__2 n31_ fr__6 eh33
  refine g_aload_n k rfl dX1_init_36 ?_
  refine g_new k 3 (C := RX3) (T := TX3) (N := 2) (fs := [vi 0, .null]) kl_X1_24 ins_X3 ini_X3 rfl wi_X3 tyX3 tyX3_ok dv_X3 (by omega) (by omega) dX1_init_37 (fun h37 eh37 => ?_)
  have ho__8 : h37 a = some (ob 1 [vi 0, vi 0, .ref (a + 1), .ref (a + 2), vi 0, .ref (a + 3), .ref (a + 4), .null]) := (congrFun eh37 _).trans ((hup_n (by first | exact nea (by decide) | exact nea0 (by decide) | exact nea1 (by decide) | omega)).trans ho__7)
  have n7__8 : h37 (a + 1) = some (ai G 8 (fun _ => (0 : Int))) := (congrFun eh37 _).trans ((hup_n (by first | exact nea (by decide) | exact nea0 (by decide) | exact nea1 (by decide) | omega)).trans n7__7)
  have n15__6 : h37 (a + 2) = some (ai G 8 (fun _ => (0 : Int))) := (congrFun eh37 _).trans ((hup_n (by first | exact nea (by decide) | exact nea0 (by decide) | exact nea1 (by decide) | omega)).trans n15__5)
  have n23__4 : h37 (a + 3) = some (ai G 8 (fun _ => (0 : Int))) := (congrFun eh37 _).trans ((hup_n (by first | exact nea (by decide) | exact nea0 (by decide) | exact nea1 (by decide) | omega)).trans n23__3)
  have n31__2 : h37 (a + 4) = some (ai G 8 (fun _ => (0 : Int))) := (congrFun eh37 _).trans ((hup_n (by first | exact nea (by decide) | exact nea0 (by decide) | exact nea1 (by decide) | omega)).trans n31__1)
  have fr__8 : ∀ q : Nat, q < a → h37 q = h q := fun q hq => (congrFun eh37 q).trans ((hup_n (by omega)).trans (fr__7 q hq))
  have n37_ : h37 (a + 5) = some (ob 3 [vi 0, .null]) := (congrFun eh37 _).trans hup_s
  clear ho__7 n7__7 n15__5 n23__3 n31__1 fr__7 eh37
  refine g_nx (c2 := 5) (s2 := 34) (n2 := a + 6) (by omega) (by omega) (by omega) ?_
  refine g_dup k rfl dX1_init_40 ?_
  refine g_cN k (b := a + 5) (As := []) v_X3_init (fun U hU => nl_X1_26 hU) (n_X3 n37_) (by omega) (by omega) rfl (Nat.le_of_ble_eq_true rfl) rfl dX1_init_41 (fun h41 p41 => ?_)
  obtain ⟨p41, f41⟩ := p41
  have ho__9 : h41 a = some (ob 1 [vi 0, vi 0, .ref (a + 1), .ref (a + 2), vi 0, .ref (a + 3), .ref (a + 4), .null]) := (f41 _ (by omega)).trans ho__8
  have n7__9 : h41 (a + 1) = some (ai G 8 (fun _ => (0 : Int))) := (f41 _ (by omega)).trans n7__8
  have n15__7 : h41 (a + 2) = some (ai G 8 (fun _ => (0 : Int))) := (f41 _ (by omega)).trans n15__6
  have n23__5 : h41 (a + 3) = some (ai G 8 (fun _ => (0 : Int))) := (f41 _ (by omega)).trans n23__4
  have n31__3 : h41 (a + 4) = some (ai G 8 (fun _ => (0 : Int))) := (f41 _ (by omega)).trans n31__2
  have n37__1 : h41 (a + 5) = some (ob 3 [vi ((0 : Nat) : Int), .ref (a + 5 + 1)]) := p41.1
  have fr__9 : ∀ q : Nat, q < a → h41 q = h q := fun q hq => (f41 q (by omega)).trans (fr__8 q hq)
  clear ho__8 n7__8 n15__6 n23__4 n31__2 n37_ fr__8
  refine g_nx (c2 := 6) (s2 := 98) (n2 := a + 7) (by omega) (by omega) (by omega) ?_
  have fz_ : ∀ q : Nat, a + 5 < q → h41 q = h41 q := fun _ _ => rfl
  refine g_putF k 1 7 (C := RX1) (T := TX1) (N := 8) fl_X1_27 rfl wi_X1 tyX1 tyX1_ok nmX1 (by decide) rfl rfl rfl rfl ho__9 (Nat.le_of_ble_eq_true rfl) (fs2 := [vi 0, vi 0, .ref (a + 1), .ref (a + 2), vi 0, .ref (a + 3), .ref (a + 4), .ref (a + 5)]) rfl rfl rfl rfl dX1_init_44 (fun h44 eh44 => ?_)
  have ho__10 : h44 a = some (ob 1 [vi 0, vi 0, .ref (a + 1), .ref (a + 2), vi 0, .ref (a + 3), .ref (a + 4), .ref (a + 5)]) := (congrFun eh44 _).trans hup_s
  have n7__10 : h44 (a + 1) = some (ai G 8 (fun _ => (0 : Int))) := (congrFun eh44 _).trans ((hup_n (by first | exact nea (by decide) | exact nea0 (by decide) | exact nea1 (by decide) | omega)).trans n7__9)
  have n15__8 : h44 (a + 2) = some (ai G 8 (fun _ => (0 : Int))) := (congrFun eh44 _).trans ((hup_n (by first | exact nea (by decide) | exact nea0 (by decide) | exact nea1 (by decide) | omega)).trans n15__7)
  have n23__6 : h44 (a + 3) = some (ai G 8 (fun _ => (0 : Int))) := (congrFun eh44 _).trans ((hup_n (by first | exact nea (by decide) | exact nea0 (by decide) | exact nea1 (by decide) | omega)).trans n23__5)
  have n31__4 : h44 (a + 4) = some (ai G 8 (fun _ => (0 : Int))) := (congrFun eh44 _).trans ((hup_n (by first | exact nea (by decide) | exact nea0 (by decide) | exact nea1 (by decide) | omega)).trans n31__3)
  have n37__2 : h44 (a + 5) = some (ob 3 [vi ((0 : Nat) : Int), .ref (a + 5 + 1)]) := (congrFun eh44 _).trans ((hup_n (by first | exact nea (by decide) | exact nea0 (by decide) | exact nea1 (by decide) | omega)).trans n37__1)
  have fr__10 : ∀ q : Nat, q < a → h44 q = h q := fun q hq => (congrFun eh44 q).trans ((hup_n (by omega)).trans (fr__9 q hq))
  have fz__1 : ∀ q : Nat, a + 5 < q → h44 q = h41 q := fun q hq => (congrFun eh44 q).trans ((hup_n (by omega)).trans (fz_ q hq))
  clear ho__9 n7__9 n15__7 n23__5 n31__3 n37__1 fr__9 fz_ eh44
  rw [← hQQ]
  refine g_retv k rfl dX1_init_47 ?_
  exact ⟨⟨⟨ho__10, n7__10, n15__8, n23__6, n31__4⟩, n37__2, (fz__1 _ (by omega)).trans p41.2⟩, fr__10⟩

set_option maxHeartbeats 600000 in
set_option maxRecDepth 100000 in
theorem n_X4 {G : Gx} {h : Hp} {a : Nat} {t r : Nat} (ho : h a = some (ob 4 [vi 0, .null, vi 0, vi 0, vi 0, vi 0, vi 0, vl 0, .null, .null, .null])) : Con G yX4_init cX4_init 3 none 2 5 97 [.ref a, .ref t, .ref r] h (a + 1) (PV (fun h' => (RDC G h' a 0 0 0 0 0 0 0 (fun _ => (0 : Int)) t r ∧ FC G h' (a + 1) 0 0 (fun _ => (0 : Int)) (fun _ => (0 : Int)) (fun _ => (0 : Int))) ∧ (∀ q : Nat, q < a → h' q = h q))) := by
  refine Con.of v_X4_init.2.2.2.2.1 (Nat.le_of_ble_eq_true rfl) (lv := [(0, .ref a), (1, .ref t), (2, .ref r)]) rfl (fun X k => ?_)
  generalize hQQ : QM G X (a + 1) 5 97 _ = QQ
  have fr0 : ∀ q : Nat, q < a → h q = h q := fun _ _ => rfl
  refine g_aload_n k rfl dX4_init_0 ?_
  refine g_objInit k ml_X4_5 (by omega) (Nat.le_of_ble_eq_true rfl) dX4_init_1 ?_
  refine g_aload_n k rfl dX4_init_4 ?_
  refine g_new k 0 (C := RX0) (T := TX0) (N := 5) (fs := [vi 0, vi 0, .null, .null, .null]) kl_X4_11 ins_X0 ini_X0 rfl wi_X0 tyX0 tyX0_ok dv_X0 (by omega) (by omega) dX4_init_5 (fun h5 eh5 => ?_)
  have ho_ : h5 a = some (ob 4 [vi 0, .null, vi 0, vi 0, vi 0, vi 0, vi 0, vl 0, .null, .null, .null]) := (congrFun eh5 _).trans ((hup_n (by first | exact nea (by decide) | exact nea0 (by decide) | exact nea1 (by decide) | omega)).trans ho)
  have fr_ : ∀ q : Nat, q < a → h5 q = h q := fun q hq => (congrFun eh5 q).trans ((hup_n (by omega)).trans (fr0 q hq))
  have n5_ : h5 (a + 1) = some (ob 0 [vi 0, vi 0, .null, .null, .null]) := (congrFun eh5 _).trans hup_s
  clear ho fr0 eh5
  refine g_nx (c2 := 1) (s2 := 5) (n2 := a + 2) (by omega) (by omega) (by omega) ?_
  refine g_dup k rfl dX4_init_8 ?_
  refine g_cN k (b := a + 1) (As := []) v_X0_init (fun U hU => nl_X4_13 hU) (n_X0 n5_) (by omega) (by omega) rfl (Nat.le_of_ble_eq_true rfl) rfl dX4_init_9 (fun h9 p9 => ?_)
  obtain ⟨p9, f9⟩ := p9
  have ho__1 : h9 a = some (ob 4 [vi 0, .null, vi 0, vi 0, vi 0, vi 0, vi 0, vl 0, .null, .null, .null]) := (f9 _ (by omega)).trans ho_
  have n5__1 : h9 (a + 1) = some (ob 0 [vi ((0 : Nat) : Int), vi ((0 : Nat) : Int), .ref (a + 1 + 1), .ref (a + 1 + 2), .ref (a + 1 + 3)]) := p9.1
  have fr__1 : ∀ q : Nat, q < a → h9 q = h q := fun q hq => (f9 q (by omega)).trans (fr_ q hq)
  clear ho_ n5_ fr_
  refine g_nx (c2 := 4) (s2 := 89) (n2 := a + 5) (by omega) (by omega) (by omega) ?_
  have fz_ : ∀ q : Nat, a < q ∧ q < a + 5 → h9 q = h9 q := fun _ _ => rfl
  refine g_putF k 4 1 (C := RX4) (T := TX4) (N := 11) fl_X4_14 rfl wi_X4 tyX4 tyX4_ok nmX4 (by decide) rfl rfl rfl rfl ho__1 (Nat.le_of_ble_eq_true rfl) (fs2 := [vi 0, .ref (a + 1), vi 0, vi 0, vi 0, vi 0, vi 0, vl 0, .null, .null, .null]) rfl rfl rfl rfl dX4_init_12 (fun h12 eh12 => ?_)
  have ho__2 : h12 a = some (ob 4 [vi 0, .ref (a + 1), vi 0, vi 0, vi 0, vi 0, vi 0, vl 0, .null, .null, .null]) := (congrFun eh12 _).trans hup_s
  have n5__2 : h12 (a + 1) = some (ob 0 [vi ((0 : Nat) : Int), vi ((0 : Nat) : Int), .ref (a + 1 + 1), .ref (a + 1 + 2), .ref (a + 1 + 3)]) := (congrFun eh12 _).trans ((hup_n (by first | exact nea (by decide) | exact nea0 (by decide) | exact nea1 (by decide) | omega)).trans n5__1)
  have fr__2 : ∀ q : Nat, q < a → h12 q = h q := fun q hq => (congrFun eh12 q).trans ((hup_n (by omega)).trans (fr__1 q hq))
  have fz__1 : ∀ q : Nat, a < q ∧ q < a + 5 → h12 q = h9 q := fun q hq => (congrFun eh12 q).trans ((hup_n (by omega)).trans (fz_ q hq))
  clear ho__1 n5__1 fr__1 fz_ eh12
  refine g_aload_n k rfl dX4_init_15 ?_
  refine g_bipush k rfl dX4_init_16 ?_
  refine g_newl k (n := 8) (by decide) (by decide) ac_long (by omega) (by omega) dX4_init_18 (fun h18 eh18 => ?_)
  have ho__3 : h18 a = some (ob 4 [vi 0, .ref (a + 1), vi 0, vi 0, vi 0, vi 0, vi 0, vl 0, .null, .null, .null]) := (congrFun eh18 _).trans ((hup_n (by first | exact nea (by decide) | exact nea0 (by decide) | exact nea1 (by decide) | omega)).trans ho__2)
  have n5__3 : h18 (a + 1) = some (ob 0 [vi ((0 : Nat) : Int), vi ((0 : Nat) : Int), .ref (a + 1 + 1), .ref (a + 1 + 2), .ref (a + 1 + 3)]) := (congrFun eh18 _).trans ((hup_n (by first | exact nea (by decide) | exact nea0 (by decide) | exact nea1 (by decide) | omega)).trans n5__2)
  have fr__3 : ∀ q : Nat, q < a → h18 q = h q := fun q hq => (congrFun eh18 q).trans ((hup_n (by omega)).trans (fr__2 q hq))
  have fz__2 : ∀ q : Nat, a < q ∧ q < a + 5 → h18 q = h9 q := fun q hq => (congrFun eh18 q).trans ((hup_n (by omega)).trans (fz__1 q hq))
  have n18_ : h18 (a + 5) = some (al G 8 (fun _ => (0 : Int))) := (congrFun eh18 _).trans hup_s
  clear ho__2 n5__2 fr__2 fz__1 eh18
  refine g_nx (c2 := 5) (s2 := 97) (n2 := a + 6) (by omega) (by omega) (by omega) ?_
  refine g_putF k 4 8 (C := RX4) (T := TX4) (N := 11) fl_X4_18 rfl wi_X4 tyX4 tyX4_ok nmX4 (by decide) rfl rfl rfl rfl ho__3 (Nat.le_of_ble_eq_true rfl) (fs2 := [vi 0, .ref (a + 1), vi 0, vi 0, vi 0, vi 0, vi 0, vl 0, .ref (a + 5), .null, .null]) rfl rfl rfl rfl dX4_init_20 (fun h20 eh20 => ?_)
  have ho__4 : h20 a = some (ob 4 [vi 0, .ref (a + 1), vi 0, vi 0, vi 0, vi 0, vi 0, vl 0, .ref (a + 5), .null, .null]) := (congrFun eh20 _).trans hup_s
  have n5__4 : h20 (a + 1) = some (ob 0 [vi ((0 : Nat) : Int), vi ((0 : Nat) : Int), .ref (a + 1 + 1), .ref (a + 1 + 2), .ref (a + 1 + 3)]) := (congrFun eh20 _).trans ((hup_n (by first | exact nea (by decide) | exact nea0 (by decide) | exact nea1 (by decide) | omega)).trans n5__3)
  have n18__1 : h20 (a + 5) = some (al G 8 (fun _ => (0 : Int))) := (congrFun eh20 _).trans ((hup_n (by first | exact nea (by decide) | exact nea0 (by decide) | exact nea1 (by decide) | omega)).trans n18_)
  have fr__4 : ∀ q : Nat, q < a → h20 q = h q := fun q hq => (congrFun eh20 q).trans ((hup_n (by omega)).trans (fr__3 q hq))
  have fz__3 : ∀ q : Nat, a < q ∧ q < a + 5 → h20 q = h9 q := fun q hq => (congrFun eh20 q).trans ((hup_n (by omega)).trans (fz__2 q hq))
  clear ho__3 n5__3 n18_ fr__3 fz__2 eh20
  refine g_aload_n k rfl dX4_init_23 ?_
  refine g_aload_n k rfl dX4_init_24 ?_
  refine g_putF k 4 9 (C := RX4) (T := TX4) (N := 11) fl_X4_22 rfl wi_X4 tyX4 tyX4_ok nmX4 (by decide) rfl rfl rfl rfl ho__4 (Nat.le_of_ble_eq_true rfl) (fs2 := [vi 0, .ref (a + 1), vi 0, vi 0, vi 0, vi 0, vi 0, vl 0, .ref (a + 5), .ref t, .null]) rfl rfl rfl rfl dX4_init_25 (fun h25 eh25 => ?_)
  have ho__5 : h25 a = some (ob 4 [vi 0, .ref (a + 1), vi 0, vi 0, vi 0, vi 0, vi 0, vl 0, .ref (a + 5), .ref t, .null]) := (congrFun eh25 _).trans hup_s
  have n5__5 : h25 (a + 1) = some (ob 0 [vi ((0 : Nat) : Int), vi ((0 : Nat) : Int), .ref (a + 1 + 1), .ref (a + 1 + 2), .ref (a + 1 + 3)]) := (congrFun eh25 _).trans ((hup_n (by first | exact nea (by decide) | exact nea0 (by decide) | exact nea1 (by decide) | omega)).trans n5__4)
  have n18__2 : h25 (a + 5) = some (al G 8 (fun _ => (0 : Int))) := (congrFun eh25 _).trans ((hup_n (by first | exact nea (by decide) | exact nea0 (by decide) | exact nea1 (by decide) | omega)).trans n18__1)
  have fr__5 : ∀ q : Nat, q < a → h25 q = h q := fun q hq => (congrFun eh25 q).trans ((hup_n (by omega)).trans (fr__4 q hq))
  have fz__4 : ∀ q : Nat, a < q ∧ q < a + 5 → h25 q = h9 q := fun q hq => (congrFun eh25 q).trans ((hup_n (by omega)).trans (fz__3 q hq))
  clear ho__4 n5__4 n18__1 fr__4 fz__3 eh25
  refine g_aload_n k rfl dX4_init_28 ?_
  refine g_aload_n k rfl dX4_init_29 ?_
  refine g_putF k 4 10 (C := RX4) (T := TX4) (N := 11) fl_X4_26 rfl wi_X4 tyX4 tyX4_ok nmX4 (by decide) rfl rfl rfl rfl ho__5 (Nat.le_of_ble_eq_true rfl) (fs2 := [vi 0, .ref (a + 1), vi 0, vi 0, vi 0, vi 0, vi 0, vl 0, .ref (a + 5), .ref t, .ref r]) rfl rfl rfl rfl dX4_init_30 (fun h30 eh30 => ?_)
  have ho__6 : h30 a = some (ob 4 [vi 0, .ref (a + 1), vi 0, vi 0, vi 0, vi 0, vi 0, vl 0, .ref (a + 5), .ref t, .ref r]) := (congrFun eh30 _).trans hup_s
  have n5__6 : h30 (a + 1) = some (ob 0 [vi ((0 : Nat) : Int), vi ((0 : Nat) : Int), .ref (a + 1 + 1), .ref (a + 1 + 2), .ref (a + 1 + 3)]) := (congrFun eh30 _).trans ((hup_n (by first | exact nea (by decide) | exact nea0 (by decide) | exact nea1 (by decide) | omega)).trans n5__5)
  have n18__3 : h30 (a + 5) = some (al G 8 (fun _ => (0 : Int))) := (congrFun eh30 _).trans ((hup_n (by first | exact nea (by decide) | exact nea0 (by decide) | exact nea1 (by decide) | omega)).trans n18__2)
  have fr__6 : ∀ q : Nat, q < a → h30 q = h q := fun q hq => (congrFun eh30 q).trans ((hup_n (by omega)).trans (fr__5 q hq))
  have fz__5 : ∀ q : Nat, a < q ∧ q < a + 5 → h30 q = h9 q := fun q hq => (congrFun eh30 q).trans ((hup_n (by omega)).trans (fz__4 q hq))
  clear ho__5 n5__5 n18__2 fr__5 fz__4 eh30
  rw [← hQQ]
  refine g_retv k rfl dX4_init_33 ?_
  exact ⟨⟨⟨ho__6, n18__3⟩, p9.keep (fun q g1 g2 => fz__5 q (by omega))⟩, fr__6⟩

set_option maxHeartbeats 600000 in
set_option maxRecDepth 100000 in
theorem n_X2 {G : Gx} {h : Hp} {a : Nat} (ho : h a = some (ob 2 [vi 0, .null])) : Con G yX2_init cX2_init 2 none 2 33 720 [.ref a] h (a + 1) (PV (fun h' => PA G h' a [] ∧ (∀ q : Nat, q < a → h' q = h q))) := by
  refine Con.of v_X2_init.2.2.2.2.1 (Nat.le_of_ble_eq_true rfl) (lv := [(0, .ref a)]) rfl (fun X k => ?_)
  generalize hQQ : QM G X (a + 1) 33 720 _ = QQ
  have fr0 : ∀ q : Nat, q < a → h q = h q := fun _ _ => rfl
  refine g_aload_n k rfl dX2_init_0 ?_
  refine g_objInit k ml_X2_3 (by omega) (Nat.le_of_ble_eq_true rfl) dX2_init_1 ?_
  refine g_aload_n k rfl dX2_init_4 ?_
  refine g_bipush k rfl dX2_init_5 ?_
  refine g_newq k (n := 8) (by decide) (by decide) kl_X2_9 (by omega) (by omega) dX2_init_7 (fun h7 eh7 => ?_)
  have ho_ : h7 a = some (ob 2 [vi 0, .null]) := (congrFun eh7 _).trans ((hup_n (by first | exact nea (by decide) | exact nea0 (by decide) | exact nea1 (by decide) | omega)).trans ho)
  have fr_ : ∀ q : Nat, q < a → h7 q = h q := fun q hq => (congrFun eh7 q).trans ((hup_n (by omega)).trans (fr0 q hq))
  have r_ : h7 (a + 1) = some (aq G 8 (fun _ => (none : Option Nat))) := (congrFun eh7 _).trans hup_s
  clear ho fr0 eh7
  refine g_nx (c2 := 1) (s2 := 8) (n2 := a + 2) (by omega) (by omega) (by omega) ?_
  refine g_putF k 2 1 (C := RX2) (T := TX2) (N := 2) fl_X2_11 rfl wi_X2 tyX2 tyX2_ok nmX2 (by decide) rfl rfl rfl rfl ho_ (Nat.le_of_ble_eq_true rfl) (fs2 := [vi 0, .ref (a + 1)]) rfl rfl rfl rfl dX2_init_10 (fun h10 eh10 => ?_)
  have ho__1 : h10 a = some (ob 2 [vi 0, .ref (a + 1)]) := (congrFun eh10 _).trans hup_s
  have r__1 : h10 (a + 1) = some (aq G 8 (fun _ => (none : Option Nat))) := (congrFun eh10 _).trans ((hup_n (by first | exact nea (by decide) | exact nea0 (by decide) | exact nea1 (by decide) | omega)).trans r_)
  have fr__1 : ∀ q : Nat, q < a → h10 q = h q := fun q hq => (congrFun eh10 q).trans ((hup_n (by omega)).trans (fr_ q hq))
  clear ho_ r_ fr_ eh10
  refine g_iconst k dX2_init_13 ?_
  refine g_istore_n k (lv2 := [(0, .ref a), (1, vi 0)]) (by decide) rfl rfl dX2_init_14 ?_
  have K15 : ∀ (nz : Nat) (i : Nat) (f : Nat → Option Nat) (h15 : Hp) (ho__2 : h15 a = some (ob 2 [vi 0, .ref (a + 1)])) (r__2 : h15 (a + 1) = some (aq G 8 f)) (fr__2 : ∀ q : Nat, q < a → h15 q = h q) (hi : i ≤ 8) (hf : ∀ j, j < i → f j = some (a + 2 + 4 * j) ∧ FC G h15 (a + 2 + 4 * j) 0 0 (fun _ => (0 : Int)) (fun _ => (0 : Int)) (fun _ => (0 : Int))) (hmz : 8 - i < nz), Go G X 2 QQ (1 + 4 * i) (8 + 89 * i) (a + 2 + 4 * i) 15 [(0, .ref a), (1, vi (i : Int))] [] h15 := by
    intro nz
    induction nz with
    | zero => intro i f h15 ho__2 r__2 fr__2 hi hf hmz; exact absurd hmz (Nat.not_lt_zero _)
    | succ nz ih15 =>
      intro i f h15 ho__2 r__2 fr__2 hi hf hmz
      refine g_iload_n k rfl dX2_init_15 ?_
      refine g_bipush k rfl dX2_init_16 ?_
      refine g_icmp_ge k (tgt := 40) (by omega) (by omega) dX2_init_18 (by decide) (fun c18 => ?_) (fun c18 => ?_)
      · skip
        obtain rfl : i = 8 := by omega
        refine g_nx (c2 := 33) (s2 := 720) (n2 := a + 34) (by omega) (by omega) (by omega) ?_
        rw [← hQQ]
        refine g_retv k rfl dX2_init_40 ?_
        exact ⟨⟨f, id, ⟨ho__2, r__2, fun j hj => ⟨(hf j hj).1, hj⟩, fun j1 j2 _ _ e => e, fun s hs => ⟨0, 0, _, _, _, (hf s hs).2⟩⟩, Nat.zero_le 8, fun j hj => absurd hj (Nat.not_lt_zero j)⟩, fr__2⟩
      · skip
        refine g_aload_n k rfl dX2_init_21 ?_
        refine g_get k 2 1 (C := RX2) (T := TX2) (N := 2) fl_X2_11 rfl wi_X2 (by decide) rfl ho__2 rfl dX2_init_22 ?_
        refine g_iload_n k rfl dX2_init_25 ?_
        refine g_new k 0 (C := RX0) (T := TX0) (N := 5) (fs := [vi 0, vi 0, .null, .null, .null]) kl_X2_9 ins_X0 ini_X0 rfl wi_X0 tyX0 tyX0_ok dv_X0 (by omega) (by omega) dX2_init_26 (fun h26 eh26 => ?_)
        have ho__3 : h26 a = some (ob 2 [vi 0, .ref (a + 1)]) := (congrFun eh26 _).trans ((hup_n (by first | exact nea (by decide) | exact nea0 (by decide) | exact nea1 (by decide) | omega)).trans ho__2)
        have r__3 : h26 (a + 1) = some (aq G 8 f) := (congrFun eh26 _).trans ((hup_n (by first | exact nea (by decide) | exact nea0 (by decide) | exact nea1 (by decide) | omega)).trans r__2)
        have fr__3 : ∀ q : Nat, q < a → h26 q = h q := fun q hq => (congrFun eh26 q).trans ((hup_n (by omega)).trans (fr__2 q hq))
        have fl_ : ∀ q : Nat, q ≠ a + 1 ∧ q < a + 2 + 4 * i → h26 q = h15 q := fun q hq => (congrFun eh26 q).trans ((hup_n (by omega)).trans ((fun _ _ => rfl) q hq))
        have n26_ : h26 (a + 2 + 4 * i) = some (ob 0 [vi 0, vi 0, .null, .null, .null]) := (congrFun eh26 _).trans hup_s
        clear ho__2 r__2 fr__2 eh26
        refine g_nx (c2 := 1 + 4 * i + 1) (s2 := 8 + 89 * i + 5) (n2 := a + 2 + 4 * i + 1) (by omega) (by omega) (by omega) ?_
        refine g_dup k rfl dX2_init_29 ?_
        refine g_cN k (b := a + 2 + 4 * i) (As := []) v_X0_init (fun U hU => nl_X2_17 hU) (n_X0 n26_) (by omega) (by omega) rfl (Nat.le_of_ble_eq_true rfl) rfl dX2_init_30 (fun h30 p30 => ?_)
        obtain ⟨p30, f30⟩ := p30
        have ho__4 : h30 a = some (ob 2 [vi 0, .ref (a + 1)]) := (f30 _ (by omega)).trans ho__3
        have r__4 : h30 (a + 1) = some (aq G 8 f) := (f30 _ (by omega)).trans r__3
        have n26__1 : h30 (a + 2 + 4 * i) = some (ob 0 [vi ((0 : Nat) : Int), vi ((0 : Nat) : Int), .ref (a + 2 + 4 * i + 1), .ref (a + 2 + 4 * i + 2), .ref (a + 2 + 4 * i + 3)]) := p30.1
        have fr__4 : ∀ q : Nat, q < a → h30 q = h q := fun q hq => (f30 q (by omega)).trans (fr__3 q hq)
        have fl__1 : ∀ q : Nat, q ≠ a + 1 ∧ q < a + 2 + 4 * i → h30 q = h15 q := fun q hq => (f30 q (by omega)).trans (fl_ q hq)
        clear ho__3 r__3 n26_ fr__3 fl_
        refine g_nx (c2 := 1 + 4 * i + 4) (s2 := 8 + 89 * i + 89) (n2 := a + 2 + 4 * i + 4) (by omega) (by omega) (by omega) ?_
        have fz_ : ∀ q : Nat, a + 2 + 4 * i ≤ q → h30 q = h30 q := fun _ _ => rfl
        refine g_astq k i r__4 n26__1 (by omega) (by omega) (by decide) dX2_init_33 (fun h33 eh33 => ?_)
        have ho__5 : h33 a = some (ob 2 [vi 0, .ref (a + 1)]) := (congrFun eh33 _).trans ((hup_n (by first | exact nea (by decide) | exact nea0 (by decide) | exact nea1 (by decide) | omega)).trans ho__4)
        have r__5 : h33 (a + 1) = some (aq G 8 (fu f i (some (a + 2 + 4 * i)))) := (congrFun eh33 _).trans hup_s
        have n26__2 : h33 (a + 2 + 4 * i) = some (ob 0 [vi ((0 : Nat) : Int), vi ((0 : Nat) : Int), .ref (a + 2 + 4 * i + 1), .ref (a + 2 + 4 * i + 2), .ref (a + 2 + 4 * i + 3)]) := (congrFun eh33 _).trans ((hup_n (by first | exact nea (by decide) | exact nea0 (by decide) | exact nea1 (by decide) | omega)).trans n26__1)
        have fr__5 : ∀ q : Nat, q < a → h33 q = h q := fun q hq => (congrFun eh33 q).trans ((hup_n (by omega)).trans (fr__4 q hq))
        have fl__2 : ∀ q : Nat, q ≠ a + 1 ∧ q < a + 2 + 4 * i → h33 q = h15 q := fun q hq => (congrFun eh33 q).trans ((hup_n (by omega)).trans (fl__1 q hq))
        have fz__1 : ∀ q : Nat, a + 2 + 4 * i ≤ q → h33 q = h30 q := fun q hq => (congrFun eh33 q).trans ((hup_n (by omega)).trans (fz_ q hq))
        clear ho__4 r__4 n26__1 fr__4 fl__1 fz_ eh33
        refine g_iinc k (lv2 := [(0, .ref a), (1, vi ((i : Int) + 1))]) rfl (by decide) rfl rfl dX2_init_34 ?_
        refine g_goto k (tgt := 15) dX2_init_37 (by decide) ?_
        refine g_nx (c2 := 1 + 4 * (i + 1)) (s2 := 8 + 89 * (i + 1)) (n2 := a + 2 + 4 * (i + 1)) (by omega) (by omega) (by omega) ?_
        exact ih15 (i + 1) (fu f i (some (a + 2 + 4 * i))) h33 ho__5 r__5 fr__5 (by omega) (fun j hj => by
              by_cases e : j = i
              · subst e; exact ⟨fu_s, p30.keep (fun q g1 g2 => fz__1 q (by omega))⟩
              · exact ⟨(fu_n e).trans (hf j (by omega)).1, (hf j (by omega)).2.keep (fun q g1 g2 => fl__2 q ⟨by omega, by omega⟩)⟩) (by omega)
  refine g_nx (c2 := 1 + 4 * 0) (s2 := 8 + 89 * 0) (n2 := a + 2 + 4 * 0) (by omega) (by omega) (by omega) ?_
  exact K15 _ 0 (fun _ => (none : Option Nat)) h10 ho__1 r__1 fr__1 (by omega) (fun j hj => absurd hj (Nat.not_lt_zero j)) (Nat.lt_succ_self _)

set_option maxHeartbeats 600000 in
set_option maxRecDepth 100000 in
theorem n_X8 {G : Gx} {h : Hp} {a : Nat} (ho : h a = some (ob 8 [vi 0, .null, .null, .null])) : Con G yX8_init cX8_init 2 none 2 61 1999 [.ref a] h (a + 1) (PV (fun h' => WA G h' a ∧ (∀ q : Nat, q < a → h' q = h q))) := by
  refine Con.of v_X8_init.2.2.2.2.1 (Nat.le_of_ble_eq_true rfl) (lv := [(0, .ref a)]) rfl (fun X k => ?_)
  generalize hQQ : QM G X (a + 1) 61 1999 _ = QQ
  have fr0 : ∀ q : Nat, q < a → h q = h q := fun _ _ => rfl
  refine g_aload_n k rfl dX8_init_0 ?_
  refine g_objInit k ml_X8_3 (by omega) (Nat.le_of_ble_eq_true rfl) dX8_init_1 ?_
  refine g_aload_n k rfl dX8_init_4 ?_
  refine g_bipush k rfl dX8_init_5 ?_
  refine g_newi k (n := 28) (by decide) (by decide) ac_int (by omega) (by omega) dX8_init_7 (fun h7 eh7 => ?_)
  have ho_ : h7 a = some (ob 8 [vi 0, .null, .null, .null]) := (congrFun eh7 _).trans ((hup_n (by first | exact nea (by decide) | exact nea0 (by decide) | exact nea1 (by decide) | omega)).trans ho)
  have fr_ : ∀ q : Nat, q < a → h7 q = h q := fun q hq => (congrFun eh7 q).trans ((hup_n (by omega)).trans (fr0 q hq))
  have n7_ : h7 (a + 1) = some (ai G 28 (fun _ => (0 : Int))) := (congrFun eh7 _).trans hup_s
  clear ho fr0 eh7
  refine g_nx (c2 := 1) (s2 := 28) (n2 := a + 2) (by omega) (by omega) (by omega) ?_
  refine g_putF k 8 1 (C := RX8) (T := TX8) (N := 4) fl_X8_9 rfl wi_X8 tyX8 tyX8_ok nmX8 (by decide) rfl rfl rfl rfl ho_ (Nat.le_of_ble_eq_true rfl) (fs2 := [vi 0, .ref (a + 1), .null, .null]) rfl rfl rfl rfl dX8_init_9 (fun h9 eh9 => ?_)
  have ho__1 : h9 a = some (ob 8 [vi 0, .ref (a + 1), .null, .null]) := (congrFun eh9 _).trans hup_s
  have n7__1 : h9 (a + 1) = some (ai G 28 (fun _ => (0 : Int))) := (congrFun eh9 _).trans ((hup_n (by first | exact nea (by decide) | exact nea0 (by decide) | exact nea1 (by decide) | omega)).trans n7_)
  have fr__1 : ∀ q : Nat, q < a → h9 q = h q := fun q hq => (congrFun eh9 q).trans ((hup_n (by omega)).trans (fr_ q hq))
  clear ho_ n7_ fr_ eh9
  refine g_aload_n k rfl dX8_init_12 ?_
  refine g_bipush k rfl dX8_init_13 ?_
  refine g_newi k (n := 28) (by decide) (by decide) ac_int (by omega) (by omega) dX8_init_15 (fun h15 eh15 => ?_)
  have ho__2 : h15 a = some (ob 8 [vi 0, .ref (a + 1), .null, .null]) := (congrFun eh15 _).trans ((hup_n (by first | exact nea (by decide) | exact nea0 (by decide) | exact nea1 (by decide) | omega)).trans ho__1)
  have n7__2 : h15 (a + 1) = some (ai G 28 (fun _ => (0 : Int))) := (congrFun eh15 _).trans ((hup_n (by first | exact nea (by decide) | exact nea0 (by decide) | exact nea1 (by decide) | omega)).trans n7__1)
  have fr__2 : ∀ q : Nat, q < a → h15 q = h q := fun q hq => (congrFun eh15 q).trans ((hup_n (by omega)).trans (fr__1 q hq))
  have n15_ : h15 (a + 2) = some (ai G 28 (fun _ => (0 : Int))) := (congrFun eh15 _).trans hup_s
  clear ho__1 n7__1 fr__1 eh15
  refine g_nx (c2 := 2) (s2 := 56) (n2 := a + 3) (by omega) (by omega) (by omega) ?_
  refine g_putF k 8 2 (C := RX8) (T := TX8) (N := 4) fl_X8_15 rfl wi_X8 tyX8 tyX8_ok nmX8 (by decide) rfl rfl rfl rfl ho__2 (Nat.le_of_ble_eq_true rfl) (fs2 := [vi 0, .ref (a + 1), .ref (a + 2), .null]) rfl rfl rfl rfl dX8_init_17 (fun h17 eh17 => ?_)
  have ho__3 : h17 a = some (ob 8 [vi 0, .ref (a + 1), .ref (a + 2), .null]) := (congrFun eh17 _).trans hup_s
  have n7__3 : h17 (a + 1) = some (ai G 28 (fun _ => (0 : Int))) := (congrFun eh17 _).trans ((hup_n (by first | exact nea (by decide) | exact nea0 (by decide) | exact nea1 (by decide) | omega)).trans n7__2)
  have n15__1 : h17 (a + 2) = some (ai G 28 (fun _ => (0 : Int))) := (congrFun eh17 _).trans ((hup_n (by first | exact nea (by decide) | exact nea0 (by decide) | exact nea1 (by decide) | omega)).trans n15_)
  have fr__3 : ∀ q : Nat, q < a → h17 q = h q := fun q hq => (congrFun eh17 q).trans ((hup_n (by omega)).trans (fr__2 q hq))
  clear ho__2 n7__2 n15_ fr__2 eh17
  refine g_aload_n k rfl dX8_init_20 ?_
  refine g_bipush k rfl dX8_init_21 ?_
  refine g_newr k (n := 29) (by decide) (by decide) kl_X8_18 (by omega) (by omega) dX8_init_23 (fun h23 eh23 => ?_)
  have ho__4 : h23 a = some (ob 8 [vi 0, .ref (a + 1), .ref (a + 2), .null]) := (congrFun eh23 _).trans ((hup_n (by first | exact nea (by decide) | exact nea0 (by decide) | exact nea1 (by decide) | omega)).trans ho__3)
  have n7__4 : h23 (a + 1) = some (ai G 28 (fun _ => (0 : Int))) := (congrFun eh23 _).trans ((hup_n (by first | exact nea (by decide) | exact nea0 (by decide) | exact nea1 (by decide) | omega)).trans n7__3)
  have n15__2 : h23 (a + 2) = some (ai G 28 (fun _ => (0 : Int))) := (congrFun eh23 _).trans ((hup_n (by first | exact nea (by decide) | exact nea0 (by decide) | exact nea1 (by decide) | omega)).trans n15__1)
  have fr__4 : ∀ q : Nat, q < a → h23 q = h q := fun q hq => (congrFun eh23 q).trans ((hup_n (by omega)).trans (fr__3 q hq))
  have r_ : h23 (a + 3) = some (ar G 29 (fun _ => (none : Option Nat))) := (congrFun eh23 _).trans hup_s
  clear ho__3 n7__3 n15__1 fr__3 eh23
  refine g_nx (c2 := 3) (s2 := 85) (n2 := a + 4) (by omega) (by omega) (by omega) ?_
  refine g_putF k 8 3 (C := RX8) (T := TX8) (N := 4) fl_X8_20 rfl wi_X8 tyX8 tyX8_ok nmX8 (by decide) rfl rfl rfl rfl ho__4 (Nat.le_of_ble_eq_true rfl) (fs2 := [vi 0, .ref (a + 1), .ref (a + 2), .ref (a + 3)]) rfl rfl rfl rfl dX8_init_26 (fun h26 eh26 => ?_)
  have ho__5 : h26 a = some (ob 8 [vi 0, .ref (a + 1), .ref (a + 2), .ref (a + 3)]) := (congrFun eh26 _).trans hup_s
  have n7__5 : h26 (a + 1) = some (ai G 28 (fun _ => (0 : Int))) := (congrFun eh26 _).trans ((hup_n (by first | exact nea (by decide) | exact nea0 (by decide) | exact nea1 (by decide) | omega)).trans n7__4)
  have n15__3 : h26 (a + 2) = some (ai G 28 (fun _ => (0 : Int))) := (congrFun eh26 _).trans ((hup_n (by first | exact nea (by decide) | exact nea0 (by decide) | exact nea1 (by decide) | omega)).trans n15__2)
  have r__1 : h26 (a + 3) = some (ar G 29 (fun _ => (none : Option Nat))) := (congrFun eh26 _).trans ((hup_n (by first | exact nea (by decide) | exact nea0 (by decide) | exact nea1 (by decide) | omega)).trans r_)
  have fr__5 : ∀ q : Nat, q < a → h26 q = h q := fun q hq => (congrFun eh26 q).trans ((hup_n (by omega)).trans (fr__4 q hq))
  clear ho__4 n7__4 n15__2 r_ fr__4 eh26
  refine g_iconst k dX8_init_29 ?_
  refine g_istore_n k (lv2 := [(0, .ref a), (1, vi 0)]) (by decide) rfl rfl dX8_init_30 ?_
  have K31 : ∀ (nz : Nat) (i : Nat) (f : Nat → Option Nat) (h31 : Hp) (ho__6 : h31 a = some (ob 8 [vi 0, .ref (a + 1), .ref (a + 2), .ref (a + 3)])) (n7__6 : h31 (a + 1) = some (ai G 28 (fun _ => (0 : Int)))) (n15__4 : h31 (a + 2) = some (ai G 28 (fun _ => (0 : Int)))) (r__2 : h31 (a + 3) = some (ar G 29 f)) (fr__6 : ∀ q : Nat, q < a → h31 q = h q) (hi : i ≤ 29) (hf : ∀ j, j < i → f j = some (a + 4 + 2 * j) ∧ RA G h31 (a + 4 + 2 * j) 0 (fun _ => (0 : Int))) (hmz : 29 - i < nz), Go G X 2 QQ (3 + 2 * i) (85 + 66 * i) (a + 4 + 2 * i) 31 [(0, .ref a), (1, vi (i : Int))] [] h31 := by
    intro nz
    induction nz with
    | zero => intro i f h31 ho__6 n7__6 n15__4 r__2 fr__6 hi hf hmz; exact absurd hmz (Nat.not_lt_zero _)
    | succ nz ih31 =>
      intro i f h31 ho__6 n7__6 n15__4 r__2 fr__6 hi hf hmz
      refine g_iload_n k rfl dX8_init_31 ?_
      refine g_bipush k rfl dX8_init_32 ?_
      refine g_icmp_gt k (tgt := 56) (by omega) (by omega) dX8_init_34 (by decide) (fun c34 => ?_) (fun c34 => ?_)
      · skip
        obtain rfl : i = 29 := by omega
        refine g_nx (c2 := 61) (s2 := 1999) (n2 := a + 62) (by omega) (by omega) (by omega) ?_
        rw [← hQQ]
        refine g_retv k rfl dX8_init_56 ?_
        exact ⟨⟨⟨0, _, _, ho__6, n7__6, n15__4, f, r__2, fun j hj => (hf j hj).1⟩, fun j hj => ⟨0, _, (hf j hj).2⟩⟩, fr__6⟩
      · skip
        refine g_aload_n k rfl dX8_init_37 ?_
        refine g_get k 8 3 (C := RX8) (T := TX8) (N := 4) fl_X8_20 rfl wi_X8 (by decide) rfl ho__6 rfl dX8_init_38 ?_
        refine g_iload_n k rfl dX8_init_41 ?_
        refine g_new k 3 (C := RX3) (T := TX3) (N := 2) (fs := [vi 0, .null]) kl_X8_18 ins_X3 ini_X3 rfl wi_X3 tyX3 tyX3_ok dv_X3 (by omega) (by omega) dX8_init_42 (fun h42 eh42 => ?_)
        have ho__7 : h42 a = some (ob 8 [vi 0, .ref (a + 1), .ref (a + 2), .ref (a + 3)]) := (congrFun eh42 _).trans ((hup_n (by first | exact nea (by decide) | exact nea0 (by decide) | exact nea1 (by decide) | omega)).trans ho__6)
        have n7__7 : h42 (a + 1) = some (ai G 28 (fun _ => (0 : Int))) := (congrFun eh42 _).trans ((hup_n (by first | exact nea (by decide) | exact nea0 (by decide) | exact nea1 (by decide) | omega)).trans n7__6)
        have n15__5 : h42 (a + 2) = some (ai G 28 (fun _ => (0 : Int))) := (congrFun eh42 _).trans ((hup_n (by first | exact nea (by decide) | exact nea0 (by decide) | exact nea1 (by decide) | omega)).trans n15__4)
        have r__3 : h42 (a + 3) = some (ar G 29 f) := (congrFun eh42 _).trans ((hup_n (by first | exact nea (by decide) | exact nea0 (by decide) | exact nea1 (by decide) | omega)).trans r__2)
        have fr__7 : ∀ q : Nat, q < a → h42 q = h q := fun q hq => (congrFun eh42 q).trans ((hup_n (by omega)).trans (fr__6 q hq))
        have fl_ : ∀ q : Nat, q ≠ a + 3 ∧ q < a + 4 + 2 * i → h42 q = h31 q := fun q hq => (congrFun eh42 q).trans ((hup_n (by omega)).trans ((fun _ _ => rfl) q hq))
        have n42_ : h42 (a + 4 + 2 * i) = some (ob 3 [vi 0, .null]) := (congrFun eh42 _).trans hup_s
        clear ho__6 n7__6 n15__4 r__2 fr__6 eh42
        refine g_nx (c2 := 3 + 2 * i + 1) (s2 := 85 + 66 * i + 2) (n2 := a + 4 + 2 * i + 1) (by omega) (by omega) (by omega) ?_
        refine g_dup k rfl dX8_init_45 ?_
        refine g_cN k (b := a + 4 + 2 * i) (As := []) v_X3_init (fun U hU => nl_X8_24 hU) (n_X3 n42_) (by omega) (by omega) rfl (Nat.le_of_ble_eq_true rfl) rfl dX8_init_46 (fun h46 p46 => ?_)
        obtain ⟨p46, f46⟩ := p46
        have ho__8 : h46 a = some (ob 8 [vi 0, .ref (a + 1), .ref (a + 2), .ref (a + 3)]) := (f46 _ (by omega)).trans ho__7
        have n7__8 : h46 (a + 1) = some (ai G 28 (fun _ => (0 : Int))) := (f46 _ (by omega)).trans n7__7
        have n15__6 : h46 (a + 2) = some (ai G 28 (fun _ => (0 : Int))) := (f46 _ (by omega)).trans n15__5
        have r__4 : h46 (a + 3) = some (ar G 29 f) := (f46 _ (by omega)).trans r__3
        have n42__1 : h46 (a + 4 + 2 * i) = some (ob 3 [vi ((0 : Nat) : Int), .ref (a + 4 + 2 * i + 1)]) := p46.1
        have fr__8 : ∀ q : Nat, q < a → h46 q = h q := fun q hq => (f46 q (by omega)).trans (fr__7 q hq)
        have fl__1 : ∀ q : Nat, q ≠ a + 3 ∧ q < a + 4 + 2 * i → h46 q = h31 q := fun q hq => (f46 q (by omega)).trans (fl_ q hq)
        clear ho__7 n7__7 n15__5 r__3 n42_ fr__7 fl_
        refine g_nx (c2 := 3 + 2 * i + 2) (s2 := 85 + 66 * i + 66) (n2 := a + 4 + 2 * i + 2) (by omega) (by omega) (by omega) ?_
        have fz_ : ∀ q : Nat, a + 4 + 2 * i ≤ q → h46 q = h46 q := fun _ _ => rfl
        refine g_astr k i r__4 n42__1 (by omega) (by omega) (by decide) dX8_init_49 (fun h49 eh49 => ?_)
        have ho__9 : h49 a = some (ob 8 [vi 0, .ref (a + 1), .ref (a + 2), .ref (a + 3)]) := (congrFun eh49 _).trans ((hup_n (by first | exact nea (by decide) | exact nea0 (by decide) | exact nea1 (by decide) | omega)).trans ho__8)
        have n7__9 : h49 (a + 1) = some (ai G 28 (fun _ => (0 : Int))) := (congrFun eh49 _).trans ((hup_n (by first | exact nea (by decide) | exact nea0 (by decide) | exact nea1 (by decide) | omega)).trans n7__8)
        have n15__7 : h49 (a + 2) = some (ai G 28 (fun _ => (0 : Int))) := (congrFun eh49 _).trans ((hup_n (by first | exact nea (by decide) | exact nea0 (by decide) | exact nea1 (by decide) | omega)).trans n15__6)
        have r__5 : h49 (a + 3) = some (ar G 29 (fu f i (some (a + 4 + 2 * i)))) := (congrFun eh49 _).trans hup_s
        have n42__2 : h49 (a + 4 + 2 * i) = some (ob 3 [vi ((0 : Nat) : Int), .ref (a + 4 + 2 * i + 1)]) := (congrFun eh49 _).trans ((hup_n (by first | exact nea (by decide) | exact nea0 (by decide) | exact nea1 (by decide) | omega)).trans n42__1)
        have fr__9 : ∀ q : Nat, q < a → h49 q = h q := fun q hq => (congrFun eh49 q).trans ((hup_n (by omega)).trans (fr__8 q hq))
        have fl__2 : ∀ q : Nat, q ≠ a + 3 ∧ q < a + 4 + 2 * i → h49 q = h31 q := fun q hq => (congrFun eh49 q).trans ((hup_n (by omega)).trans (fl__1 q hq))
        have fz__1 : ∀ q : Nat, a + 4 + 2 * i ≤ q → h49 q = h46 q := fun q hq => (congrFun eh49 q).trans ((hup_n (by omega)).trans (fz_ q hq))
        clear ho__8 n7__8 n15__6 r__4 n42__1 fr__8 fl__1 fz_ eh49
        refine g_iinc k (lv2 := [(0, .ref a), (1, vi ((i : Int) + 1))]) rfl (by decide) rfl rfl dX8_init_50 ?_
        refine g_goto k (tgt := 31) dX8_init_53 (by decide) ?_
        refine g_nx (c2 := 3 + 2 * (i + 1)) (s2 := 85 + 66 * (i + 1)) (n2 := a + 4 + 2 * (i + 1)) (by omega) (by omega) (by omega) ?_
        exact ih31 (i + 1) (fu f i (some (a + 4 + 2 * i))) h49 ho__9 n7__9 n15__7 r__5 fr__9 (by omega) (fun j hj => by
              by_cases e : j = i
              · subst e; exact ⟨fu_s, p46.keep (fun q g1 g2 => fz__1 q (by omega))⟩
              · exact ⟨(fu_n e).trans (hf j (by omega)).1, (hf j (by omega)).2.keep (fun q g1 g2 => fl__2 q ⟨by omega, by omega⟩)⟩) (by omega)
  refine g_nx (c2 := 3 + 2 * 0) (s2 := 85 + 66 * 0) (n2 := a + 4 + 2 * 0) (by omega) (by omega) (by omega) ?_
  exact K31 _ 0 (fun _ => (none : Option Nat)) h26 ho__5 n7__5 n15__3 r__1 fr__5 (by omega) (fun j hj => absurd hj (Nat.not_lt_zero j)) (Nat.lt_succ_self _)

