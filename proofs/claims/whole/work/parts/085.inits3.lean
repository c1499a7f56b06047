/-! the constructor of the model -/
set_option maxHeartbeats 1000000 in
set_option maxRecDepth 100000 in
theorem n_X10 {G : Gx} {h : Hp} {a : Nat} (ho : h a = some (ob 10 [vi 0, .null, vi 0, vi 0, vi 0, vi 0, vi 0, vi 0, vi 0, vl 0, .null, .null, .null, .null, .null, .null, .null, .null, .null, vi 0, .null, .null, .null, .null, vi 0, vi 0, vi 0, vi 0, vi 0, vi 0, vi 0, vi 0, .null, vi 0, vi 0, .null, .null, vi 0])) : Con G yX10_init cX10_init 1 none 1 17 2216 [.ref a] h (a + 1) (PV (fun h' => MS G h' a 0 [] [] (fun _ => none) V0 0 (fun _ => 0) 0 ∧ (∀ q : Nat, q < a → h' q = h q))) := by
  refine Con.of v_X10_init.2.2.2.2.1 (Nat.le_of_ble_eq_true rfl) (lv := [(0, .ref a)]) rfl (fun X k => ?_)
  generalize hQQ : QM G X (a + 1) 17 2216 _ = QQ
  have fr0 : ∀ q : Nat, q < a → h q = h q := fun _ _ => rfl
  refine g_aload_n k rfl dX10_init_0 ?_
  refine g_objInit k ml_X10_68 (by omega) (Nat.le_of_ble_eq_true rfl) dX10_init_1 ?_
  refine g_aload_n k rfl dX10_init_4 ?_
  refine g_sipush k rfl dX10_init_5 ?_
  refine g_newi k (n := 740) (by decide) (by decide) ac_int (by omega) (by omega) dX10_init_8 (fun h8 eh8 => ?_)
  have ho_ : h8 a = some (ob 10 [vi 0, .null, vi 0, vi 0, vi 0, vi 0, vi 0, vi 0, vi 0, vl 0, .null, .null, .null, .null, .null, .null, .null, .null, .null, vi 0, .null, .null, .null, .null, vi 0, vi 0, vi 0, vi 0, vi 0, vi 0, vi 0, vi 0, .null, vi 0, vi 0, .null, .null, vi 0]) := (congrFun eh8 _).trans ((hup_n (by first | exact nea (by decide) | exact nea0 (by decide) | exact nea1 (by decide) | omega)).trans ho)
  have fr_ : ∀ q : Nat, q < a → h8 q = h q := fun q hq => (congrFun eh8 q).trans ((hup_n (by omega)).trans (fr0 q hq))
  have n8_ : h8 (a + 1) = some (ai G 740 (fun _ => (0 : Int))) := (congrFun eh8 _).trans hup_s
  clear ho fr0 eh8
  refine g_nx (c2 := 1) (s2 := 740) (n2 := a + 2) (by omega) (by omega) (by omega) ?_
  refine g_putF k 10 1 (C := RX10) (T := TX10) (N := 38) fl_X10_7 rfl wi_X10 tyX10 tyX10_ok nmX10 (by decide) rfl rfl rfl rfl ho_ (Nat.le_of_ble_eq_true rfl) (fs2 := [vi 0, .ref (a + 1), vi 0, vi 0, vi 0, vi 0, vi 0, vi 0, vi 0, vl 0, .null, .null, .null, .null, .null, .null, .null, .null, .null, vi 0, .null, .null, .null, .null, vi 0, vi 0, vi 0, vi 0, vi 0, vi 0, vi 0, vi 0, .null, vi 0, vi 0, .null, .null, vi 0]) rfl rfl rfl rfl dX10_init_10 (fun h10 eh10 => ?_)
  have ho__1 : h10 a = some (ob 10 [vi 0, .ref (a + 1), vi 0, vi 0, vi 0, vi 0, vi 0, vi 0, vi 0, vl 0, .null, .null, .null, .null, .null, .null, .null, .null, .null, vi 0, .null, .null, .null, .null, vi 0, vi 0, vi 0, vi 0, vi 0, vi 0, vi 0, vi 0, .null, vi 0, vi 0, .null, .null, vi 0]) := (congrFun eh10 _).trans hup_s
  have n8__1 : h10 (a + 1) = some (ai G 740 (fun _ => (0 : Int))) := (congrFun eh10 _).trans ((hup_n (by first | exact nea (by decide) | exact nea0 (by decide) | exact nea1 (by decide) | omega)).trans n8_)
  have fr__1 : ∀ q : Nat, q < a → h10 q = h q := fun q hq => (congrFun eh10 q).trans ((hup_n (by omega)).trans (fr_ q hq))
  clear ho_ n8_ fr_ eh10
  refine g_aload_n k rfl dX10_init_13 ?_
  refine g_bipush k rfl dX10_init_14 ?_
  refine g_newi k (n := 86) (by decide) (by decide) ac_int (by omega) (by omega) dX10_init_16 (fun h16 eh16 => ?_)
  have ho__2 : h16 a = some (ob 10 [vi 0, .ref (a + 1), vi 0, vi 0, vi 0, vi 0, vi 0, vi 0, vi 0, vl 0, .null, .null, .null, .null, .null, .null, .null, .null, .null, vi 0, .null, .null, .null, .null, vi 0, vi 0, vi 0, vi 0, vi 0, vi 0, vi 0, vi 0, .null, vi 0, vi 0, .null, .null, vi 0]) := (congrFun eh16 _).trans ((hup_n (by first | exact nea (by decide) | exact nea0 (by decide) | exact nea1 (by decide) | omega)).trans ho__1)
  have n8__2 : h16 (a + 1) = some (ai G 740 (fun _ => (0 : Int))) := (congrFun eh16 _).trans ((hup_n (by first | exact nea (by decide) | exact nea0 (by decide) | exact nea1 (by decide) | omega)).trans n8__1)
  have fr__2 : ∀ q : Nat, q < a → h16 q = h q := fun q hq => (congrFun eh16 q).trans ((hup_n (by omega)).trans (fr__1 q hq))
  have n16_ : h16 (a + 2) = some (ai G 86 (fun _ => (0 : Int))) := (congrFun eh16 _).trans hup_s
  clear ho__1 n8__1 fr__1 eh16
  refine g_nx (c2 := 2) (s2 := 826) (n2 := a + 3) (by omega) (by omega) (by omega) ?_
  refine g_putF k 10 10 (C := RX10) (T := TX10) (N := 38) fl_X10_74 rfl wi_X10 tyX10 tyX10_ok nmX10 (by decide) rfl rfl rfl rfl ho__2 (Nat.le_of_ble_eq_true rfl) (fs2 := [vi 0, .ref (a + 1), vi 0, vi 0, vi 0, vi 0, vi 0, vi 0, vi 0, vl 0, .ref (a + 2), .null, .null, .null, .null, .null, .null, .null, .null, vi 0, .null, .null, .null, .null, vi 0, vi 0, vi 0, vi 0, vi 0, vi 0, vi 0, vi 0, .null, vi 0, vi 0, .null, .null, vi 0]) rfl rfl rfl rfl dX10_init_18 (fun h18 eh18 => ?_)
  have ho__3 : h18 a = some (ob 10 [vi 0, .ref (a + 1), vi 0, vi 0, vi 0, vi 0, vi 0, vi 0, vi 0, vl 0, .ref (a + 2), .null, .null, .null, .null, .null, .null, .null, .null, vi 0, .null, .null, .null, .null, vi 0, vi 0, vi 0, vi 0, vi 0, vi 0, vi 0, vi 0, .null, vi 0, vi 0, .null, .null, vi 0]) := (congrFun eh18 _).trans hup_s
  have n8__3 : h18 (a + 1) = some (ai G 740 (fun _ => (0 : Int))) := (congrFun eh18 _).trans ((hup_n (by first | exact nea (by decide) | exact nea0 (by decide) | exact nea1 (by decide) | omega)).trans n8__2)
  have n16__1 : h18 (a + 2) = some (ai G 86 (fun _ => (0 : Int))) := (congrFun eh18 _).trans ((hup_n (by first | exact nea (by decide) | exact nea0 (by decide) | exact nea1 (by decide) | omega)).trans n16_)
  have fr__3 : ∀ q : Nat, q < a → h18 q = h q := fun q hq => (congrFun eh18 q).trans ((hup_n (by omega)).trans (fr__2 q hq))
  clear ho__2 n8__2 n16_ fr__2 eh18
  refine g_aload_n k rfl dX10_init_21 ?_
  refine g_bipush k rfl dX10_init_22 ?_
  refine g_newi k (n := 86) (by decide) (by decide) ac_int (by omega) (by omega) dX10_init_24 (fun h24 eh24 => ?_)
  have ho__4 : h24 a = some (ob 10 [vi 0, .ref (a + 1), vi 0, vi 0, vi 0, vi 0, vi 0, vi 0, vi 0, vl 0, .ref (a + 2), .null, .null, .null, .null, .null, .null, .null, .null, vi 0, .null, .null, .null, .null, vi 0, vi 0, vi 0, vi 0, vi 0, vi 0, vi 0, vi 0, .null, vi 0, vi 0, .null, .null, vi 0]) := (congrFun eh24 _).trans ((hup_n (by first | exact nea (by decide) | exact nea0 (by decide) | exact nea1 (by decide) | omega)).trans ho__3)
  have n8__4 : h24 (a + 1) = some (ai G 740 (fun _ => (0 : Int))) := (congrFun eh24 _).trans ((hup_n (by first | exact nea (by decide) | exact nea0 (by decide) | exact nea1 (by decide) | omega)).trans n8__3)
  have n16__2 : h24 (a + 2) = some (ai G 86 (fun _ => (0 : Int))) := (congrFun eh24 _).trans ((hup_n (by first | exact nea (by decide) | exact nea0 (by decide) | exact nea1 (by decide) | omega)).trans n16__1)
  have fr__4 : ∀ q : Nat, q < a → h24 q = h q := fun q hq => (congrFun eh24 q).trans ((hup_n (by omega)).trans (fr__3 q hq))
  have n24_ : h24 (a + 3) = some (ai G 86 (fun _ => (0 : Int))) := (congrFun eh24 _).trans hup_s
  clear ho__3 n8__3 n16__1 fr__3 eh24
  refine g_nx (c2 := 3) (s2 := 912) (n2 := a + 4) (by omega) (by omega) (by omega) ?_
  refine g_putF k 10 11 (C := RX10) (T := TX10) (N := 38) fl_X10_77 rfl wi_X10 tyX10 tyX10_ok nmX10 (by decide) rfl rfl rfl rfl ho__4 (Nat.le_of_ble_eq_true rfl) (fs2 := [vi 0, .ref (a + 1), vi 0, vi 0, vi 0, vi 0, vi 0, vi 0, vi 0, vl 0, .ref (a + 2), .ref (a + 3), .null, .null, .null, .null, .null, .null, .null, vi 0, .null, .null, .null, .null, vi 0, vi 0, vi 0, vi 0, vi 0, vi 0, vi 0, vi 0, .null, vi 0, vi 0, .null, .null, vi 0]) rfl rfl rfl rfl dX10_init_26 (fun h26 eh26 => ?_)
  have ho__5 : h26 a = some (ob 10 [vi 0, .ref (a + 1), vi 0, vi 0, vi 0, vi 0, vi 0, vi 0, vi 0, vl 0, .ref (a + 2), .ref (a + 3), .null, .null, .null, .null, .null, .null, .null, vi 0, .null, .null, .null, .null, vi 0, vi 0, vi 0, vi 0, vi 0, vi 0, vi 0, vi 0, .null, vi 0, vi 0, .null, .null, vi 0]) := (congrFun eh26 _).trans hup_s
  have n8__5 : h26 (a + 1) = some (ai G 740 (fun _ => (0 : Int))) := (congrFun eh26 _).trans ((hup_n (by first | exact nea (by decide) | exact nea0 (by decide) | exact nea1 (by decide) | omega)).trans n8__4)
  have n16__3 : h26 (a + 2) = some (ai G 86 (fun _ => (0 : Int))) := (congrFun eh26 _).trans ((hup_n (by first | exact nea (by decide) | exact nea0 (by decide) | exact nea1 (by decide) | omega)).trans n16__2)
  have n24__1 : h26 (a + 3) = some (ai G 86 (fun _ => (0 : Int))) := (congrFun eh26 _).trans ((hup_n (by first | exact nea (by decide) | exact nea0 (by decide) | exact nea1 (by decide) | omega)).trans n24_)
  have fr__5 : ∀ q : Nat, q < a → h26 q = h q := fun q hq => (congrFun eh26 q).trans ((hup_n (by omega)).trans (fr__4 q hq))
  clear ho__4 n8__4 n16__2 n24_ fr__4 eh26
  refine g_aload_n k rfl dX10_init_29 ?_
  refine g_sipush k rfl dX10_init_30 ?_
  refine g_newi k (n := 172) (by decide) (by decide) ac_int (by omega) (by omega) dX10_init_33 (fun h33 eh33 => ?_)
  have ho__6 : h33 a = some (ob 10 [vi 0, .ref (a + 1), vi 0, vi 0, vi 0, vi 0, vi 0, vi 0, vi 0, vl 0, .ref (a + 2), .ref (a + 3), .null, .null, .null, .null, .null, .null, .null, vi 0, .null, .null, .null, .null, vi 0, vi 0, vi 0, vi 0, vi 0, vi 0, vi 0, vi 0, .null, vi 0, vi 0, .null, .null, vi 0]) := (congrFun eh33 _).trans ((hup_n (by first | exact nea (by decide) | exact nea0 (by decide) | exact nea1 (by decide) | omega)).trans ho__5)
  have n8__6 : h33 (a + 1) = some (ai G 740 (fun _ => (0 : Int))) := (congrFun eh33 _).trans ((hup_n (by first | exact nea (by decide) | exact nea0 (by decide) | exact nea1 (by decide) | omega)).trans n8__5)
  have n16__4 : h33 (a + 2) = some (ai G 86 (fun _ => (0 : Int))) := (congrFun eh33 _).trans ((hup_n (by first | exact nea (by decide) | exact nea0 (by decide) | exact nea1 (by decide) | omega)).trans n16__3)
  have n24__2 : h33 (a + 3) = some (ai G 86 (fun _ => (0 : Int))) := (congrFun eh33 _).trans ((hup_n (by first | exact nea (by decide) | exact nea0 (by decide) | exact nea1 (by decide) | omega)).trans n24__1)
  have fr__6 : ∀ q : Nat, q < a → h33 q = h q := fun q hq => (congrFun eh33 q).trans ((hup_n (by omega)).trans (fr__5 q hq))
  have n33_ : h33 (a + 4) = some (ai G 172 (fun _ => (0 : Int))) := (congrFun eh33 _).trans hup_s
  clear ho__5 n8__5 n16__3 n24__1 fr__5 eh33
  refine g_nx (c2 := 4) (s2 := 1084) (n2 := a + 5) (by omega) (by omega) (by omega) ?_
  refine g_putF k 10 12 (C := RX10) (T := TX10) (N := 38) fl_X10_80 rfl wi_X10 tyX10 tyX10_ok nmX10 (by decide) rfl rfl rfl rfl ho__6 (Nat.le_of_ble_eq_true rfl) (fs2 := [vi 0, .ref (a + 1), vi 0, vi 0, vi 0, vi 0, vi 0, vi 0, vi 0, vl 0, .ref (a + 2), .ref (a + 3), .ref (a + 4), .null, .null, .null, .null, .null, .null, vi 0, .null, .null, .null, .null, vi 0, vi 0, vi 0, vi 0, vi 0, vi 0, vi 0, vi 0, .null, vi 0, vi 0, .null, .null, vi 0]) rfl rfl rfl rfl dX10_init_35 (fun h35 eh35 => ?_)
  have ho__7 : h35 a = some (ob 10 [vi 0, .ref (a + 1), vi 0, vi 0, vi 0, vi 0, vi 0, vi 0, vi 0, vl 0, .ref (a + 2), .ref (a + 3), .ref (a + 4), .null, .null, .null, .null, .null, .null, vi 0, .null, .null, .null, .null, vi 0, vi 0, vi 0, vi 0, vi 0, vi 0, vi 0, vi 0, .null, vi 0, vi 0, .null, .null, vi 0]) := (congrFun eh35 _).trans hup_s
  have n8__7 : h35 (a + 1) = some (ai G 740 (fun _ => (0 : Int))) := (congrFun eh35 _).trans ((hup_n (by first | exact nea (by decide) | exact nea0 (by decide) | exact nea1 (by decide) | omega)).trans n8__6)
  have n16__5 : h35 (a + 2) = some (ai G 86 (fun _ => (0 : Int))) := (congrFun eh35 _).trans ((hup_n (by first | exact nea (by decide) | exact nea0 (by decide) | exact nea1 (by decide) | omega)).trans n16__4)
  have n24__3 : h35 (a + 3) = some (ai G 86 (fun _ => (0 : Int))) := (congrFun eh35 _).trans ((hup_n (by first | exact nea (by decide) | exact nea0 (by decide) | exact nea1 (by decide) | omega)).trans n24__2)
  have n33__1 : h35 (a + 4) = some (ai G 172 (fun _ => (0 : Int))) := (congrFun eh35 _).trans ((hup_n (by first | exact nea (by decide) | exact nea0 (by decide) | exact nea1 (by decide) | omega)).trans n33_)
  have fr__7 : ∀ q : Nat, q < a → h35 q = h q := fun q hq => (congrFun eh35 q).trans ((hup_n (by omega)).trans (fr__6 q hq))
  clear ho__6 n8__6 n16__4 n24__2 n33_ fr__6 eh35
  refine g_aload_n k rfl dX10_init_38 ?_
  refine g_sipush k rfl dX10_init_39 ?_
  refine g_newi k (n := 688) (by decide) (by decide) ac_int (by omega) (by omega) dX10_init_42 (fun h42 eh42 => ?_)
  have ho__8 : h42 a = some (ob 10 [vi 0, .ref (a + 1), vi 0, vi 0, vi 0, vi 0, vi 0, vi 0, vi 0, vl 0, .ref (a + 2), .ref (a + 3), .ref (a + 4), .null, .null, .null, .null, .null, .null, vi 0, .null, .null, .null, .null, vi 0, vi 0, vi 0, vi 0, vi 0, vi 0, vi 0, vi 0, .null, vi 0, vi 0, .null, .null, vi 0]) := (congrFun eh42 _).trans ((hup_n (by first | exact nea (by decide) | exact nea0 (by decide) | exact nea1 (by decide) | omega)).trans ho__7)
  have n8__8 : h42 (a + 1) = some (ai G 740 (fun _ => (0 : Int))) := (congrFun eh42 _).trans ((hup_n (by first | exact nea (by decide) | exact nea0 (by decide) | exact nea1 (by decide) | omega)).trans n8__7)
  have n16__6 : h42 (a + 2) = some (ai G 86 (fun _ => (0 : Int))) := (congrFun eh42 _).trans ((hup_n (by first | exact nea (by decide) | exact nea0 (by decide) | exact nea1 (by decide) | omega)).trans n16__5)
  have n24__4 : h42 (a + 3) = some (ai G 86 (fun _ => (0 : Int))) := (congrFun eh42 _).trans ((hup_n (by first | exact nea (by decide) | exact nea0 (by decide) | exact nea1 (by decide) | omega)).trans n24__3)
  have n33__2 : h42 (a + 4) = some (ai G 172 (fun _ => (0 : Int))) := (congrFun eh42 _).trans ((hup_n (by first | exact nea (by decide) | exact nea0 (by decide) | exact nea1 (by decide) | omega)).trans n33__1)
  have fr__8 : ∀ q : Nat, q < a → h42 q = h q := fun q hq => (congrFun eh42 q).trans ((hup_n (by omega)).trans (fr__7 q hq))
  have n42_ : h42 (a + 5) = some (ai G 688 (fun _ => (0 : Int))) := (congrFun eh42 _).trans hup_s
  clear ho__7 n8__7 n16__5 n24__3 n33__1 fr__7 eh42
  refine g_nx (c2 := 5) (s2 := 1772) (n2 := a + 6) (by omega) (by omega) (by omega) ?_
  refine g_putF k 10 13 (C := RX10) (T := TX10) (N := 38) fl_X10_83 rfl wi_X10 tyX10 tyX10_ok nmX10 (by decide) rfl rfl rfl rfl ho__8 (Nat.le_of_ble_eq_true rfl) (fs2 := [vi 0, .ref (a + 1), vi 0, vi 0, vi 0, vi 0, vi 0, vi 0, vi 0, vl 0, .ref (a + 2), .ref (a + 3), .ref (a + 4), .ref (a + 5), .null, .null, .null, .null, .null, vi 0, .null, .null, .null, .null, vi 0, vi 0, vi 0, vi 0, vi 0, vi 0, vi 0, vi 0, .null, vi 0, vi 0, .null, .null, vi 0]) rfl rfl rfl rfl dX10_init_44 (fun h44 eh44 => ?_)
  have ho__9 : h44 a = some (ob 10 [vi 0, .ref (a + 1), vi 0, vi 0, vi 0, vi 0, vi 0, vi 0, vi 0, vl 0, .ref (a + 2), .ref (a + 3), .ref (a + 4), .ref (a + 5), .null, .null, .null, .null, .null, vi 0, .null, .null, .null, .null, vi 0, vi 0, vi 0, vi 0, vi 0, vi 0, vi 0, vi 0, .null, vi 0, vi 0, .null, .null, vi 0]) := (congrFun eh44 _).trans hup_s
  have n8__9 : h44 (a + 1) = some (ai G 740 (fun _ => (0 : Int))) := (congrFun eh44 _).trans ((hup_n (by first | exact nea (by decide) | exact nea0 (by decide) | exact nea1 (by decide) | omega)).trans n8__8)
  have n16__7 : h44 (a + 2) = some (ai G 86 (fun _ => (0 : Int))) := (congrFun eh44 _).trans ((hup_n (by first | exact nea (by decide) | exact nea0 (by decide) | exact nea1 (by decide) | omega)).trans n16__6)
  have n24__5 : h44 (a + 3) = some (ai G 86 (fun _ => (0 : Int))) := (congrFun eh44 _).trans ((hup_n (by first | exact nea (by decide) | exact nea0 (by decide) | exact nea1 (by decide) | omega)).trans n24__4)
  have n33__3 : h44 (a + 4) = some (ai G 172 (fun _ => (0 : Int))) := (congrFun eh44 _).trans ((hup_n (by first | exact nea (by decide) | exact nea0 (by decide) | exact nea1 (by decide) | omega)).trans n33__2)
  have n42__1 : h44 (a + 5) = some (ai G 688 (fun _ => (0 : Int))) := (congrFun eh44 _).trans ((hup_n (by first | exact nea (by decide) | exact nea0 (by decide) | exact nea1 (by decide) | omega)).trans n42_)
  have fr__9 : ∀ q : Nat, q < a → h44 q = h q := fun q hq => (congrFun eh44 q).trans ((hup_n (by omega)).trans (fr__8 q hq))
  clear ho__8 n8__8 n16__6 n24__4 n33__2 n42_ fr__8 eh44
  refine g_aload_n k rfl dX10_init_47 ?_
  refine g_bipush k rfl dX10_init_48 ?_
  refine g_newi k (n := 86) (by decide) (by decide) ac_int (by omega) (by omega) dX10_init_50 (fun h50 eh50 => ?_)
  have ho__10 : h50 a = some (ob 10 [vi 0, .ref (a + 1), vi 0, vi 0, vi 0, vi 0, vi 0, vi 0, vi 0, vl 0, .ref (a + 2), .ref (a + 3), .ref (a + 4), .ref (a + 5), .null, .null, .null, .null, .null, vi 0, .null, .null, .null, .null, vi 0, vi 0, vi 0, vi 0, vi 0, vi 0, vi 0, vi 0, .null, vi 0, vi 0, .null, .null, vi 0]) := (congrFun eh50 _).trans ((hup_n (by first | exact nea (by decide) | exact nea0 (by decide) | exact nea1 (by decide) | omega)).trans ho__9)
  have n8__10 : h50 (a + 1) = some (ai G 740 (fun _ => (0 : Int))) := (congrFun eh50 _).trans ((hup_n (by first | exact nea (by decide) | exact nea0 (by decide) | exact nea1 (by decide) | omega)).trans n8__9)
  have n16__8 : h50 (a + 2) = some (ai G 86 (fun _ => (0 : Int))) := (congrFun eh50 _).trans ((hup_n (by first | exact nea (by decide) | exact nea0 (by decide) | exact nea1 (by decide) | omega)).trans n16__7)
  have n24__6 : h50 (a + 3) = some (ai G 86 (fun _ => (0 : Int))) := (congrFun eh50 _).trans ((hup_n (by first | exact nea (by decide) | exact nea0 (by decide) | exact nea1 (by decide) | omega)).trans n24__5)
  have n33__4 : h50 (a + 4) = some (ai G 172 (fun _ => (0 : Int))) := (congrFun eh50 _).trans ((hup_n (by first | exact nea (by decide) | exact nea0 (by decide) | exact nea1 (by decide) | omega)).trans n33__3)
  have n42__2 : h50 (a + 5) = some (ai G 688 (fun _ => (0 : Int))) := (congrFun eh50 _).trans ((hup_n (by first | exact nea (by decide) | exact nea0 (by decide) | exact nea1 (by decide) | omega)).trans n42__1)
  have fr__10 : ∀ q : Nat, q < a → h50 q = h q := fun q hq => (congrFun eh50 q).trans ((hup_n (by omega)).trans (fr__9 q hq))
  have n50_ : h50 (a + 6) = some (ai G 86 (fun _ => (0 : Int))) := (congrFun eh50 _).trans hup_s
  clear ho__9 n8__9 n16__7 n24__5 n33__3 n42__1 fr__9 eh50
  refine g_nx (c2 := 6) (s2 := 1858) (n2 := a + 7) (by omega) (by omega) (by omega) ?_
  refine g_putF k 10 14 (C := RX10) (T := TX10) (N := 38) fl_X10_86 rfl wi_X10 tyX10 tyX10_ok nmX10 (by decide) rfl rfl rfl rfl ho__10 (Nat.le_of_ble_eq_true rfl) (fs2 := [vi 0, .ref (a + 1), vi 0, vi 0, vi 0, vi 0, vi 0, vi 0, vi 0, vl 0, .ref (a + 2), .ref (a + 3), .ref (a + 4), .ref (a + 5), .ref (a + 6), .null, .null, .null, .null, vi 0, .null, .null, .null, .null, vi 0, vi 0, vi 0, vi 0, vi 0, vi 0, vi 0, vi 0, .null, vi 0, vi 0, .null, .null, vi 0]) rfl rfl rfl rfl dX10_init_52 (fun h52 eh52 => ?_)
  have ho__11 : h52 a = some (ob 10 [vi 0, .ref (a + 1), vi 0, vi 0, vi 0, vi 0, vi 0, vi 0, vi 0, vl 0, .ref (a + 2), .ref (a + 3), .ref (a + 4), .ref (a + 5), .ref (a + 6), .null, .null, .null, .null, vi 0, .null, .null, .null, .null, vi 0, vi 0, vi 0, vi 0, vi 0, vi 0, vi 0, vi 0, .null, vi 0, vi 0, .null, .null, vi 0]) := (congrFun eh52 _).trans hup_s
  have n8__11 : h52 (a + 1) = some (ai G 740 (fun _ => (0 : Int))) := (congrFun eh52 _).trans ((hup_n (by first | exact nea (by decide) | exact nea0 (by decide) | exact nea1 (by decide) | omega)).trans n8__10)
  have n16__9 : h52 (a + 2) = some (ai G 86 (fun _ => (0 : Int))) := (congrFun eh52 _).trans ((hup_n (by first | exact nea (by decide) | exact nea0 (by decide) | exact nea1 (by decide) | omega)).trans n16__8)
  have n24__7 : h52 (a + 3) = some (ai G 86 (fun _ => (0 : Int))) := (congrFun eh52 _).trans ((hup_n (by first | exact nea (by decide) | exact nea0 (by decide) | exact nea1 (by decide) | omega)).trans n24__6)
  have n33__5 : h52 (a + 4) = some (ai G 172 (fun _ => (0 : Int))) := (congrFun eh52 _).trans ((hup_n (by first | exact nea (by decide) | exact nea0 (by decide) | exact nea1 (by decide) | omega)).trans n33__4)
  have n42__3 : h52 (a + 5) = some (ai G 688 (fun _ => (0 : Int))) := (congrFun eh52 _).trans ((hup_n (by first | exact nea (by decide) | exact nea0 (by decide) | exact nea1 (by decide) | omega)).trans n42__2)
  have n50__1 : h52 (a + 6) = some (ai G 86 (fun _ => (0 : Int))) := (congrFun eh52 _).trans ((hup_n (by first | exact nea (by decide) | exact nea0 (by decide) | exact nea1 (by decide) | omega)).trans n50_)
  have fr__11 : ∀ q : Nat, q < a → h52 q = h q := fun q hq => (congrFun eh52 q).trans ((hup_n (by omega)).trans (fr__10 q hq))
  clear ho__10 n8__10 n16__8 n24__6 n33__4 n42__2 n50_ fr__10 eh52
  refine g_aload_n k rfl dX10_init_55 ?_
  refine g_bipush k rfl dX10_init_56 ?_
  refine g_newi k (n := 86) (by decide) (by decide) ac_int (by omega) (by omega) dX10_init_58 (fun h58 eh58 => ?_)
  have ho__12 : h58 a = some (ob 10 [vi 0, .ref (a + 1), vi 0, vi 0, vi 0, vi 0, vi 0, vi 0, vi 0, vl 0, .ref (a + 2), .ref (a + 3), .ref (a + 4), .ref (a + 5), .ref (a + 6), .null, .null, .null, .null, vi 0, .null, .null, .null, .null, vi 0, vi 0, vi 0, vi 0, vi 0, vi 0, vi 0, vi 0, .null, vi 0, vi 0, .null, .null, vi 0]) := (congrFun eh58 _).trans ((hup_n (by first | exact nea (by decide) | exact nea0 (by decide) | exact nea1 (by decide) | omega)).trans ho__11)
  have n8__12 : h58 (a + 1) = some (ai G 740 (fun _ => (0 : Int))) := (congrFun eh58 _).trans ((hup_n (by first | exact nea (by decide) | exact nea0 (by decide) | exact nea1 (by decide) | omega)).trans n8__11)
  have n16__10 : h58 (a + 2) = some (ai G 86 (fun _ => (0 : Int))) := (congrFun eh58 _).trans ((hup_n (by first | exact nea (by decide) | exact nea0 (by decide) | exact nea1 (by decide) | omega)).trans n16__9)
  have n24__8 : h58 (a + 3) = some (ai G 86 (fun _ => (0 : Int))) := (congrFun eh58 _).trans ((hup_n (by first | exact nea (by decide) | exact nea0 (by decide) | exact nea1 (by decide) | omega)).trans n24__7)
  have n33__6 : h58 (a + 4) = some (ai G 172 (fun _ => (0 : Int))) := (congrFun eh58 _).trans ((hup_n (by first | exact nea (by decide) | exact nea0 (by decide) | exact nea1 (by decide) | omega)).trans n33__5)
  have n42__4 : h58 (a + 5) = some (ai G 688 (fun _ => (0 : Int))) := (congrFun eh58 _).trans ((hup_n (by first | exact nea (by decide) | exact nea0 (by decide) | exact nea1 (by decide) | omega)).trans n42__3)
  have n50__2 : h58 (a + 6) = some (ai G 86 (fun _ => (0 : Int))) := (congrFun eh58 _).trans ((hup_n (by first | exact nea (by decide) | exact nea0 (by decide) | exact nea1 (by decide) | omega)).trans n50__1)
  have fr__12 : ∀ q : Nat, q < a → h58 q = h q := fun q hq => (congrFun eh58 q).trans ((hup_n (by omega)).trans (fr__11 q hq))
  have n58_ : h58 (a + 7) = some (ai G 86 (fun _ => (0 : Int))) := (congrFun eh58 _).trans hup_s
  clear ho__11 n8__11 n16__9 n24__7 n33__5 n42__3 n50__1 fr__11 eh58
  refine g_nx (c2 := 7) (s2 := 1944) (n2 := a + 8) (by omega) (by omega) (by omega) ?_
  refine g_putF k 10 15 (C := RX10) (T := TX10) (N := 38) fl_X10_89 rfl wi_X10 tyX10 tyX10_ok nmX10 (by decide) rfl rfl rfl rfl ho__12 (Nat.le_of_ble_eq_true rfl) (fs2 := [vi 0, .ref (a + 1), vi 0, vi 0, vi 0, vi 0, vi 0, vi 0, vi 0, vl 0, .ref (a + 2), .ref (a + 3), .ref (a + 4), .ref (a + 5), .ref (a + 6), .ref (a + 7), .null, .null, .null, vi 0, .null, .null, .null, .null, vi 0, vi 0, vi 0, vi 0, vi 0, vi 0, vi 0, vi 0, .null, vi 0, vi 0, .null, .null, vi 0]) rfl rfl rfl rfl dX10_init_60 (fun h60 eh60 => ?_)
  have ho__13 : h60 a = some (ob 10 [vi 0, .ref (a + 1), vi 0, vi 0, vi 0, vi 0, vi 0, vi 0, vi 0, vl 0, .ref (a + 2), .ref (a + 3), .ref (a + 4), .ref (a + 5), .ref (a + 6), .ref (a + 7), .null, .null, .null, vi 0, .null, .null, .null, .null, vi 0, vi 0, vi 0, vi 0, vi 0, vi 0, vi 0, vi 0, .null, vi 0, vi 0, .null, .null, vi 0]) := (congrFun eh60 _).trans hup_s
  have n8__13 : h60 (a + 1) = some (ai G 740 (fun _ => (0 : Int))) := (congrFun eh60 _).trans ((hup_n (by first | exact nea (by decide) | exact nea0 (by decide) | exact nea1 (by decide) | omega)).trans n8__12)
  have n16__11 : h60 (a + 2) = some (ai G 86 (fun _ => (0 : Int))) := (congrFun eh60 _).trans ((hup_n (by first | exact nea (by decide) | exact nea0 (by decide) | exact nea1 (by decide) | omega)).trans n16__10)
  have n24__9 : h60 (a + 3) = some (ai G 86 (fun _ => (0 : Int))) := (congrFun eh60 _).trans ((hup_n (by first | exact nea (by decide) | exact nea0 (by decide) | exact nea1 (by decide) | omega)).trans n24__8)
  have n33__7 : h60 (a + 4) = some (ai G 172 (fun _ => (0 : Int))) := (congrFun eh60 _).trans ((hup_n (by first | exact nea (by decide) | exact nea0 (by decide) | exact nea1 (by decide) | omega)).trans n33__6)
  have n42__5 : h60 (a + 5) = some (ai G 688 (fun _ => (0 : Int))) := (congrFun eh60 _).trans ((hup_n (by first | exact nea (by decide) | exact nea0 (by decide) | exact nea1 (by decide) | omega)).trans n42__4)
  have n50__3 : h60 (a + 6) = some (ai G 86 (fun _ => (0 : Int))) := (congrFun eh60 _).trans ((hup_n (by first | exact nea (by decide) | exact nea0 (by decide) | exact nea1 (by decide) | omega)).trans n50__2)
  have n58__1 : h60 (a + 7) = some (ai G 86 (fun _ => (0 : Int))) := (congrFun eh60 _).trans ((hup_n (by first | exact nea (by decide) | exact nea0 (by decide) | exact nea1 (by decide) | omega)).trans n58_)
  have fr__13 : ∀ q : Nat, q < a → h60 q = h q := fun q hq => (congrFun eh60 q).trans ((hup_n (by omega)).trans (fr__12 q hq))
  clear ho__12 n8__12 n16__10 n24__8 n33__6 n42__4 n50__2 n58_ fr__12 eh60
  refine g_aload_n k rfl dX10_init_63 ?_
  refine g_bipush k rfl dX10_init_64 ?_
  refine g_newi k (n := 86) (by decide) (by decide) ac_int (by omega) (by omega) dX10_init_66 (fun h66 eh66 => ?_)
  have ho__14 : h66 a = some (ob 10 [vi 0, .ref (a + 1), vi 0, vi 0, vi 0, vi 0, vi 0, vi 0, vi 0, vl 0, .ref (a + 2), .ref (a + 3), .ref (a + 4), .ref (a + 5), .ref (a + 6), .ref (a + 7), .null, .null, .null, vi 0, .null, .null, .null, .null, vi 0, vi 0, vi 0, vi 0, vi 0, vi 0, vi 0, vi 0, .null, vi 0, vi 0, .null, .null, vi 0]) := (congrFun eh66 _).trans ((hup_n (by first | exact nea (by decide) | exact nea0 (by decide) | exact nea1 (by decide) | omega)).trans ho__13)
  have n8__14 : h66 (a + 1) = some (ai G 740 (fun _ => (0 : Int))) := (congrFun eh66 _).trans ((hup_n (by first | exact nea (by decide) | exact nea0 (by decide) | exact nea1 (by decide) | omega)).trans n8__13)
  have n16__12 : h66 (a + 2) = some (ai G 86 (fun _ => (0 : Int))) := (congrFun eh66 _).trans ((hup_n (by first | exact nea (by decide) | exact nea0 (by decide) | exact nea1 (by decide) | omega)).trans n16__11)
  have n24__10 : h66 (a + 3) = some (ai G 86 (fun _ => (0 : Int))) := (congrFun eh66 _).trans ((hup_n (by first | exact nea (by decide) | exact nea0 (by decide) | exact nea1 (by decide) | omega)).trans n24__9)
  have n33__8 : h66 (a + 4) = some (ai G 172 (fun _ => (0 : Int))) := (congrFun eh66 _).trans ((hup_n (by first | exact nea (by decide) | exact nea0 (by decide) | exact nea1 (by decide) | omega)).trans n33__7)
  have n42__6 : h66 (a + 5) = some (ai G 688 (fun _ => (0 : Int))) := (congrFun eh66 _).trans ((hup_n (by first | exact nea (by decide) | exact nea0 (by decide) | exact nea1 (by decide) | omega)).trans n42__5)
  have n50__4 : h66 (a + 6) = some (ai G 86 (fun _ => (0 : Int))) := (congrFun eh66 _).trans ((hup_n (by first | exact nea (by decide) | exact nea0 (by decide) | exact nea1 (by decide) | omega)).trans n50__3)
  have n58__2 : h66 (a + 7) = some (ai G 86 (fun _ => (0 : Int))) := (congrFun eh66 _).trans ((hup_n (by first | exact nea (by decide) | exact nea0 (by decide) | exact nea1 (by decide) | omega)).trans n58__1)
  have fr__14 : ∀ q : Nat, q < a → h66 q = h q := fun q hq => (congrFun eh66 q).trans ((hup_n (by omega)).trans (fr__13 q hq))
  have n66_ : h66 (a + 8) = some (ai G 86 (fun _ => (0 : Int))) := (congrFun eh66 _).trans hup_s
  clear ho__13 n8__13 n16__11 n24__9 n33__7 n42__5 n50__3 n58__1 fr__13 eh66
  refine g_nx (c2 := 8) (s2 := 2030) (n2 := a + 9) (by omega) (by omega) (by omega) ?_
  refine g_putF k 10 16 (C := RX10) (T := TX10) (N := 38) fl_X10_92 rfl wi_X10 tyX10 tyX10_ok nmX10 (by decide) rfl rfl rfl rfl ho__14 (Nat.le_of_ble_eq_true rfl) (fs2 := [vi 0, .ref (a + 1), vi 0, vi 0, vi 0, vi 0, vi 0, vi 0, vi 0, vl 0, .ref (a + 2), .ref (a + 3), .ref (a + 4), .ref (a + 5), .ref (a + 6), .ref (a + 7), .ref (a + 8), .null, .null, vi 0, .null, .null, .null, .null, vi 0, vi 0, vi 0, vi 0, vi 0, vi 0, vi 0, vi 0, .null, vi 0, vi 0, .null, .null, vi 0]) rfl rfl rfl rfl dX10_init_68 (fun h68 eh68 => ?_)
  have ho__15 : h68 a = some (ob 10 [vi 0, .ref (a + 1), vi 0, vi 0, vi 0, vi 0, vi 0, vi 0, vi 0, vl 0, .ref (a + 2), .ref (a + 3), .ref (a + 4), .ref (a + 5), .ref (a + 6), .ref (a + 7), .ref (a + 8), .null, .null, vi 0, .null, .null, .null, .null, vi 0, vi 0, vi 0, vi 0, vi 0, vi 0, vi 0, vi 0, .null, vi 0, vi 0, .null, .null, vi 0]) := (congrFun eh68 _).trans hup_s
  have n8__15 : h68 (a + 1) = some (ai G 740 (fun _ => (0 : Int))) := (congrFun eh68 _).trans ((hup_n (by first | exact nea (by decide) | exact nea0 (by decide) | exact nea1 (by decide) | omega)).trans n8__14)
  have n16__13 : h68 (a + 2) = some (ai G 86 (fun _ => (0 : Int))) := (congrFun eh68 _).trans ((hup_n (by first | exact nea (by decide) | exact nea0 (by decide) | exact nea1 (by decide) | omega)).trans n16__12)
  have n24__11 : h68 (a + 3) = some (ai G 86 (fun _ => (0 : Int))) := (congrFun eh68 _).trans ((hup_n (by first | exact nea (by decide) | exact nea0 (by decide) | exact nea1 (by decide) | omega)).trans n24__10)
  have n33__9 : h68 (a + 4) = some (ai G 172 (fun _ => (0 : Int))) := (congrFun eh68 _).trans ((hup_n (by first | exact nea (by decide) | exact nea0 (by decide) | exact nea1 (by decide) | omega)).trans n33__8)
  have n42__7 : h68 (a + 5) = some (ai G 688 (fun _ => (0 : Int))) := (congrFun eh68 _).trans ((hup_n (by first | exact nea (by decide) | exact nea0 (by decide) | exact nea1 (by decide) | omega)).trans n42__6)
  have n50__5 : h68 (a + 6) = some (ai G 86 (fun _ => (0 : Int))) := (congrFun eh68 _).trans ((hup_n (by first | exact nea (by decide) | exact nea0 (by decide) | exact nea1 (by decide) | omega)).trans n50__4)
  have n58__3 : h68 (a + 7) = some (ai G 86 (fun _ => (0 : Int))) := (congrFun eh68 _).trans ((hup_n (by first | exact nea (by decide) | exact nea0 (by decide) | exact nea1 (by decide) | omega)).trans n58__2)
  have n66__1 : h68 (a + 8) = some (ai G 86 (fun _ => (0 : Int))) := (congrFun eh68 _).trans ((hup_n (by first | exact nea (by decide) | exact nea0 (by decide) | exact nea1 (by decide) | omega)).trans n66_)
  have fr__15 : ∀ q : Nat, q < a → h68 q = h q := fun q hq => (congrFun eh68 q).trans ((hup_n (by omega)).trans (fr__14 q hq))
  clear ho__14 n8__14 n16__12 n24__10 n33__8 n42__6 n50__4 n58__2 n66_ fr__14 eh68
  refine g_aload_n k rfl dX10_init_71 ?_
  refine g_bipush k rfl dX10_init_72 ?_
  refine g_newl k (n := 8) (by decide) (by decide) ac_long (by omega) (by omega) dX10_init_74 (fun h74 eh74 => ?_)
  have ho__16 : h74 a = some (ob 10 [vi 0, .ref (a + 1), vi 0, vi 0, vi 0, vi 0, vi 0, vi 0, vi 0, vl 0, .ref (a + 2), .ref (a + 3), .ref (a + 4), .ref (a + 5), .ref (a + 6), .ref (a + 7), .ref (a + 8), .null, .null, vi 0, .null, .null, .null, .null, vi 0, vi 0, vi 0, vi 0, vi 0, vi 0, vi 0, vi 0, .null, vi 0, vi 0, .null, .null, vi 0]) := (congrFun eh74 _).trans ((hup_n (by first | exact nea (by decide) | exact nea0 (by decide) | exact nea1 (by decide) | omega)).trans ho__15)
  have n8__16 : h74 (a + 1) = some (ai G 740 (fun _ => (0 : Int))) := (congrFun eh74 _).trans ((hup_n (by first | exact nea (by decide) | exact nea0 (by decide) | exact nea1 (by decide) | omega)).trans n8__15)
  have n16__14 : h74 (a + 2) = some (ai G 86 (fun _ => (0 : Int))) := (congrFun eh74 _).trans ((hup_n (by first | exact nea (by decide) | exact nea0 (by decide) | exact nea1 (by decide) | omega)).trans n16__13)
  have n24__12 : h74 (a + 3) = some (ai G 86 (fun _ => (0 : Int))) := (congrFun eh74 _).trans ((hup_n (by first | exact nea (by decide) | exact nea0 (by decide) | exact nea1 (by decide) | omega)).trans n24__11)
  have n33__10 : h74 (a + 4) = some (ai G 172 (fun _ => (0 : Int))) := (congrFun eh74 _).trans ((hup_n (by first | exact nea (by decide) | exact nea0 (by decide) | exact nea1 (by decide) | omega)).trans n33__9)
  have n42__8 : h74 (a + 5) = some (ai G 688 (fun _ => (0 : Int))) := (congrFun eh74 _).trans ((hup_n (by first | exact nea (by decide) | exact nea0 (by decide) | exact nea1 (by decide) | omega)).trans n42__7)
  have n50__6 : h74 (a + 6) = some (ai G 86 (fun _ => (0 : Int))) := (congrFun eh74 _).trans ((hup_n (by first | exact nea (by decide) | exact nea0 (by decide) | exact nea1 (by decide) | omega)).trans n50__5)
  have n58__4 : h74 (a + 7) = some (ai G 86 (fun _ => (0 : Int))) := (congrFun eh74 _).trans ((hup_n (by first | exact nea (by decide) | exact nea0 (by decide) | exact nea1 (by decide) | omega)).trans n58__3)
  have n66__2 : h74 (a + 8) = some (ai G 86 (fun _ => (0 : Int))) := (congrFun eh74 _).trans ((hup_n (by first | exact nea (by decide) | exact nea0 (by decide) | exact nea1 (by decide) | omega)).trans n66__1)
  have fr__16 : ∀ q : Nat, q < a → h74 q = h q := fun q hq => (congrFun eh74 q).trans ((hup_n (by omega)).trans (fr__15 q hq))
  have n74_ : h74 (a + 9) = some (al G 8 (fun _ => (0 : Int))) := (congrFun eh74 _).trans hup_s
  clear ho__15 n8__15 n16__13 n24__11 n33__9 n42__7 n50__5 n58__3 n66__1 fr__15 eh74
  refine g_nx (c2 := 9) (s2 := 2038) (n2 := a + 10) (by omega) (by omega) (by omega) ?_
  refine g_putF k 10 17 (C := RX10) (T := TX10) (N := 38) fl_X10_95 rfl wi_X10 tyX10 tyX10_ok nmX10 (by decide) rfl rfl rfl rfl ho__16 (Nat.le_of_ble_eq_true rfl) (fs2 := [vi 0, .ref (a + 1), vi 0, vi 0, vi 0, vi 0, vi 0, vi 0, vi 0, vl 0, .ref (a + 2), .ref (a + 3), .ref (a + 4), .ref (a + 5), .ref (a + 6), .ref (a + 7), .ref (a + 8), .ref (a + 9), .null, vi 0, .null, .null, .null, .null, vi 0, vi 0, vi 0, vi 0, vi 0, vi 0, vi 0, vi 0, .null, vi 0, vi 0, .null, .null, vi 0]) rfl rfl rfl rfl dX10_init_76 (fun h76 eh76 => ?_)
  have ho__17 : h76 a = some (ob 10 [vi 0, .ref (a + 1), vi 0, vi 0, vi 0, vi 0, vi 0, vi 0, vi 0, vl 0, .ref (a + 2), .ref (a + 3), .ref (a + 4), .ref (a + 5), .ref (a + 6), .ref (a + 7), .ref (a + 8), .ref (a + 9), .null, vi 0, .null, .null, .null, .null, vi 0, vi 0, vi 0, vi 0, vi 0, vi 0, vi 0, vi 0, .null, vi 0, vi 0, .null, .null, vi 0]) := (congrFun eh76 _).trans hup_s
  have n8__17 : h76 (a + 1) = some (ai G 740 (fun _ => (0 : Int))) := (congrFun eh76 _).trans ((hup_n (by first | exact nea (by decide) | exact nea0 (by decide) | exact nea1 (by decide) | omega)).trans n8__16)
  have n16__15 : h76 (a + 2) = some (ai G 86 (fun _ => (0 : Int))) := (congrFun eh76 _).trans ((hup_n (by first | exact nea (by decide) | exact nea0 (by decide) | exact nea1 (by decide) | omega)).trans n16__14)
  have n24__13 : h76 (a + 3) = some (ai G 86 (fun _ => (0 : Int))) := (congrFun eh76 _).trans ((hup_n (by first | exact nea (by decide) | exact nea0 (by decide) | exact nea1 (by decide) | omega)).trans n24__12)
  have n33__11 : h76 (a + 4) = some (ai G 172 (fun _ => (0 : Int))) := (congrFun eh76 _).trans ((hup_n (by first | exact nea (by decide) | exact nea0 (by decide) | exact nea1 (by decide) | omega)).trans n33__10)
  have n42__9 : h76 (a + 5) = some (ai G 688 (fun _ => (0 : Int))) := (congrFun eh76 _).trans ((hup_n (by first | exact nea (by decide) | exact nea0 (by decide) | exact nea1 (by decide) | omega)).trans n42__8)
  have n50__7 : h76 (a + 6) = some (ai G 86 (fun _ => (0 : Int))) := (congrFun eh76 _).trans ((hup_n (by first | exact nea (by decide) | exact nea0 (by decide) | exact nea1 (by decide) | omega)).trans n50__6)
  have n58__5 : h76 (a + 7) = some (ai G 86 (fun _ => (0 : Int))) := (congrFun eh76 _).trans ((hup_n (by first | exact nea (by decide) | exact nea0 (by decide) | exact nea1 (by decide) | omega)).trans n58__4)
  have n66__3 : h76 (a + 8) = some (ai G 86 (fun _ => (0 : Int))) := (congrFun eh76 _).trans ((hup_n (by first | exact nea (by decide) | exact nea0 (by decide) | exact nea1 (by decide) | omega)).trans n66__2)
  have n74__1 : h76 (a + 9) = some (al G 8 (fun _ => (0 : Int))) := (congrFun eh76 _).trans ((hup_n (by first | exact nea (by decide) | exact nea0 (by decide) | exact nea1 (by decide) | omega)).trans n74_)
  have fr__17 : ∀ q : Nat, q < a → h76 q = h q := fun q hq => (congrFun eh76 q).trans ((hup_n (by omega)).trans (fr__16 q hq))
  clear ho__16 n8__16 n16__14 n24__12 n33__10 n42__8 n50__6 n58__4 n66__2 n74_ fr__16 eh76
  refine g_aload_n k rfl dX10_init_79 ?_
  refine g_iconst k dX10_init_80 ?_
  refine g_newz k (n := 2) (by decide) (by decide) ac_boolean (by omega) (by omega) dX10_init_81 (fun h81 eh81 => ?_)
  have ho__18 : h81 a = some (ob 10 [vi 0, .ref (a + 1), vi 0, vi 0, vi 0, vi 0, vi 0, vi 0, vi 0, vl 0, .ref (a + 2), .ref (a + 3), .ref (a + 4), .ref (a + 5), .ref (a + 6), .ref (a + 7), .ref (a + 8), .ref (a + 9), .null, vi 0, .null, .null, .null, .null, vi 0, vi 0, vi 0, vi 0, vi 0, vi 0, vi 0, vi 0, .null, vi 0, vi 0, .null, .null, vi 0]) := (congrFun eh81 _).trans ((hup_n (by first | exact nea (by decide) | exact nea0 (by decide) | exact nea1 (by decide) | omega)).trans ho__17)
  have n8__18 : h81 (a + 1) = some (ai G 740 (fun _ => (0 : Int))) := (congrFun eh81 _).trans ((hup_n (by first | exact nea (by decide) | exact nea0 (by decide) | exact nea1 (by decide) | omega)).trans n8__17)
  have n16__16 : h81 (a + 2) = some (ai G 86 (fun _ => (0 : Int))) := (congrFun eh81 _).trans ((hup_n (by first | exact nea (by decide) | exact nea0 (by decide) | exact nea1 (by decide) | omega)).trans n16__15)
  have n24__14 : h81 (a + 3) = some (ai G 86 (fun _ => (0 : Int))) := (congrFun eh81 _).trans ((hup_n (by first | exact nea (by decide) | exact nea0 (by decide) | exact nea1 (by decide) | omega)).trans n24__13)
  have n33__12 : h81 (a + 4) = some (ai G 172 (fun _ => (0 : Int))) := (congrFun eh81 _).trans ((hup_n (by first | exact nea (by decide) | exact nea0 (by decide) | exact nea1 (by decide) | omega)).trans n33__11)
  have n42__10 : h81 (a + 5) = some (ai G 688 (fun _ => (0 : Int))) := (congrFun eh81 _).trans ((hup_n (by first | exact nea (by decide) | exact nea0 (by decide) | exact nea1 (by decide) | omega)).trans n42__9)
  have n50__8 : h81 (a + 6) = some (ai G 86 (fun _ => (0 : Int))) := (congrFun eh81 _).trans ((hup_n (by first | exact nea (by decide) | exact nea0 (by decide) | exact nea1 (by decide) | omega)).trans n50__7)
  have n58__6 : h81 (a + 7) = some (ai G 86 (fun _ => (0 : Int))) := (congrFun eh81 _).trans ((hup_n (by first | exact nea (by decide) | exact nea0 (by decide) | exact nea1 (by decide) | omega)).trans n58__5)
  have n66__4 : h81 (a + 8) = some (ai G 86 (fun _ => (0 : Int))) := (congrFun eh81 _).trans ((hup_n (by first | exact nea (by decide) | exact nea0 (by decide) | exact nea1 (by decide) | omega)).trans n66__3)
  have n74__2 : h81 (a + 9) = some (al G 8 (fun _ => (0 : Int))) := (congrFun eh81 _).trans ((hup_n (by first | exact nea (by decide) | exact nea0 (by decide) | exact nea1 (by decide) | omega)).trans n74__1)
  have fr__18 : ∀ q : Nat, q < a → h81 q = h q := fun q hq => (congrFun eh81 q).trans ((hup_n (by omega)).trans (fr__17 q hq))
  have n81_ : h81 (a + 10) = some (az G 2 (fun _ => (0 : Int))) := (congrFun eh81 _).trans hup_s
  clear ho__17 n8__17 n16__15 n24__13 n33__11 n42__9 n50__7 n58__5 n66__3 n74__1 fr__17 eh81
  refine g_nx (c2 := 10) (s2 := 2040) (n2 := a + 11) (by omega) (by omega) (by omega) ?_
  refine g_putF k 10 18 (C := RX10) (T := TX10) (N := 38) fl_X10_99 rfl wi_X10 tyX10 tyX10_ok nmX10 (by decide) rfl rfl rfl rfl ho__18 (Nat.le_of_ble_eq_true rfl) (fs2 := [vi 0, .ref (a + 1), vi 0, vi 0, vi 0, vi 0, vi 0, vi 0, vi 0, vl 0, .ref (a + 2), .ref (a + 3), .ref (a + 4), .ref (a + 5), .ref (a + 6), .ref (a + 7), .ref (a + 8), .ref (a + 9), .ref (a + 10), vi 0, .null, .null, .null, .null, vi 0, vi 0, vi 0, vi 0, vi 0, vi 0, vi 0, vi 0, .null, vi 0, vi 0, .null, .null, vi 0]) rfl rfl rfl rfl dX10_init_83 (fun h83 eh83 => ?_)
  have ho__19 : h83 a = some (ob 10 [vi 0, .ref (a + 1), vi 0, vi 0, vi 0, vi 0, vi 0, vi 0, vi 0, vl 0, .ref (a + 2), .ref (a + 3), .ref (a + 4), .ref (a + 5), .ref (a + 6), .ref (a + 7), .ref (a + 8), .ref (a + 9), .ref (a + 10), vi 0, .null, .null, .null, .null, vi 0, vi 0, vi 0, vi 0, vi 0, vi 0, vi 0, vi 0, .null, vi 0, vi 0, .null, .null, vi 0]) := (congrFun eh83 _).trans hup_s
  have n8__19 : h83 (a + 1) = some (ai G 740 (fun _ => (0 : Int))) := (congrFun eh83 _).trans ((hup_n (by first | exact nea (by decide) | exact nea0 (by decide) | exact nea1 (by decide) | omega)).trans n8__18)
  have n16__17 : h83 (a + 2) = some (ai G 86 (fun _ => (0 : Int))) := (congrFun eh83 _).trans ((hup_n (by first | exact nea (by decide) | exact nea0 (by decide) | exact nea1 (by decide) | omega)).trans n16__16)
  have n24__15 : h83 (a + 3) = some (ai G 86 (fun _ => (0 : Int))) := (congrFun eh83 _).trans ((hup_n (by first | exact nea (by decide) | exact nea0 (by decide) | exact nea1 (by decide) | omega)).trans n24__14)
  have n33__13 : h83 (a + 4) = some (ai G 172 (fun _ => (0 : Int))) := (congrFun eh83 _).trans ((hup_n (by first | exact nea (by decide) | exact nea0 (by decide) | exact nea1 (by decide) | omega)).trans n33__12)
  have n42__11 : h83 (a + 5) = some (ai G 688 (fun _ => (0 : Int))) := (congrFun eh83 _).trans ((hup_n (by first | exact nea (by decide) | exact nea0 (by decide) | exact nea1 (by decide) | omega)).trans n42__10)
  have n50__9 : h83 (a + 6) = some (ai G 86 (fun _ => (0 : Int))) := (congrFun eh83 _).trans ((hup_n (by first | exact nea (by decide) | exact nea0 (by decide) | exact nea1 (by decide) | omega)).trans n50__8)
  have n58__7 : h83 (a + 7) = some (ai G 86 (fun _ => (0 : Int))) := (congrFun eh83 _).trans ((hup_n (by first | exact nea (by decide) | exact nea0 (by decide) | exact nea1 (by decide) | omega)).trans n58__6)
  have n66__5 : h83 (a + 8) = some (ai G 86 (fun _ => (0 : Int))) := (congrFun eh83 _).trans ((hup_n (by first | exact nea (by decide) | exact nea0 (by decide) | exact nea1 (by decide) | omega)).trans n66__4)
  have n74__3 : h83 (a + 9) = some (al G 8 (fun _ => (0 : Int))) := (congrFun eh83 _).trans ((hup_n (by first | exact nea (by decide) | exact nea0 (by decide) | exact nea1 (by decide) | omega)).trans n74__2)
  have n81__1 : h83 (a + 10) = some (az G 2 (fun _ => (0 : Int))) := (congrFun eh83 _).trans ((hup_n (by first | exact nea (by decide) | exact nea0 (by decide) | exact nea1 (by decide) | omega)).trans n81_)
  have fr__19 : ∀ q : Nat, q < a → h83 q = h q := fun q hq => (congrFun eh83 q).trans ((hup_n (by omega)).trans (fr__18 q hq))
  clear ho__18 n8__18 n16__16 n24__14 n33__12 n42__10 n50__8 n58__6 n66__4 n74__2 n81_ fr__18 eh83
  refine g_aload_n k rfl dX10_init_86 ?_
  refine g_bipush k rfl dX10_init_87 ?_
  refine g_newi k (n := 64) (by decide) (by decide) ac_int (by omega) (by omega) dX10_init_89 (fun h89 eh89 => ?_)
  have ho__20 : h89 a = some (ob 10 [vi 0, .ref (a + 1), vi 0, vi 0, vi 0, vi 0, vi 0, vi 0, vi 0, vl 0, .ref (a + 2), .ref (a + 3), .ref (a + 4), .ref (a + 5), .ref (a + 6), .ref (a + 7), .ref (a + 8), .ref (a + 9), .ref (a + 10), vi 0, .null, .null, .null, .null, vi 0, vi 0, vi 0, vi 0, vi 0, vi 0, vi 0, vi 0, .null, vi 0, vi 0, .null, .null, vi 0]) := (congrFun eh89 _).trans ((hup_n (by first | exact nea (by decide) | exact nea0 (by decide) | exact nea1 (by decide) | omega)).trans ho__19)
  have n8__20 : h89 (a + 1) = some (ai G 740 (fun _ => (0 : Int))) := (congrFun eh89 _).trans ((hup_n (by first | exact nea (by decide) | exact nea0 (by decide) | exact nea1 (by decide) | omega)).trans n8__19)
  have n16__18 : h89 (a + 2) = some (ai G 86 (fun _ => (0 : Int))) := (congrFun eh89 _).trans ((hup_n (by first | exact nea (by decide) | exact nea0 (by decide) | exact nea1 (by decide) | omega)).trans n16__17)
  have n24__16 : h89 (a + 3) = some (ai G 86 (fun _ => (0 : Int))) := (congrFun eh89 _).trans ((hup_n (by first | exact nea (by decide) | exact nea0 (by decide) | exact nea1 (by decide) | omega)).trans n24__15)
  have n33__14 : h89 (a + 4) = some (ai G 172 (fun _ => (0 : Int))) := (congrFun eh89 _).trans ((hup_n (by first | exact nea (by decide) | exact nea0 (by decide) | exact nea1 (by decide) | omega)).trans n33__13)
  have n42__12 : h89 (a + 5) = some (ai G 688 (fun _ => (0 : Int))) := (congrFun eh89 _).trans ((hup_n (by first | exact nea (by decide) | exact nea0 (by decide) | exact nea1 (by decide) | omega)).trans n42__11)
  have n50__10 : h89 (a + 6) = some (ai G 86 (fun _ => (0 : Int))) := (congrFun eh89 _).trans ((hup_n (by first | exact nea (by decide) | exact nea0 (by decide) | exact nea1 (by decide) | omega)).trans n50__9)
  have n58__8 : h89 (a + 7) = some (ai G 86 (fun _ => (0 : Int))) := (congrFun eh89 _).trans ((hup_n (by first | exact nea (by decide) | exact nea0 (by decide) | exact nea1 (by decide) | omega)).trans n58__7)
  have n66__6 : h89 (a + 8) = some (ai G 86 (fun _ => (0 : Int))) := (congrFun eh89 _).trans ((hup_n (by first | exact nea (by decide) | exact nea0 (by decide) | exact nea1 (by decide) | omega)).trans n66__5)
  have n74__4 : h89 (a + 9) = some (al G 8 (fun _ => (0 : Int))) := (congrFun eh89 _).trans ((hup_n (by first | exact nea (by decide) | exact nea0 (by decide) | exact nea1 (by decide) | omega)).trans n74__3)
  have n81__2 : h89 (a + 10) = some (az G 2 (fun _ => (0 : Int))) := (congrFun eh89 _).trans ((hup_n (by first | exact nea (by decide) | exact nea0 (by decide) | exact nea1 (by decide) | omega)).trans n81__1)
  have fr__20 : ∀ q : Nat, q < a → h89 q = h q := fun q hq => (congrFun eh89 q).trans ((hup_n (by omega)).trans (fr__19 q hq))
  have n89_ : h89 (a + 11) = some (ai G 64 (fun _ => (0 : Int))) := (congrFun eh89 _).trans hup_s
  clear ho__19 n8__19 n16__17 n24__15 n33__13 n42__11 n50__9 n58__7 n66__5 n74__3 n81__1 fr__19 eh89
  refine g_nx (c2 := 11) (s2 := 2104) (n2 := a + 12) (by omega) (by omega) (by omega) ?_
  refine g_putF k 10 20 (C := RX10) (T := TX10) (N := 38) fl_X10_103 rfl wi_X10 tyX10 tyX10_ok nmX10 (by decide) rfl rfl rfl rfl ho__20 (Nat.le_of_ble_eq_true rfl) (fs2 := [vi 0, .ref (a + 1), vi 0, vi 0, vi 0, vi 0, vi 0, vi 0, vi 0, vl 0, .ref (a + 2), .ref (a + 3), .ref (a + 4), .ref (a + 5), .ref (a + 6), .ref (a + 7), .ref (a + 8), .ref (a + 9), .ref (a + 10), vi 0, .ref (a + 11), .null, .null, .null, vi 0, vi 0, vi 0, vi 0, vi 0, vi 0, vi 0, vi 0, .null, vi 0, vi 0, .null, .null, vi 0]) rfl rfl rfl rfl dX10_init_91 (fun h91 eh91 => ?_)
  have ho__21 : h91 a = some (ob 10 [vi 0, .ref (a + 1), vi 0, vi 0, vi 0, vi 0, vi 0, vi 0, vi 0, vl 0, .ref (a + 2), .ref (a + 3), .ref (a + 4), .ref (a + 5), .ref (a + 6), .ref (a + 7), .ref (a + 8), .ref (a + 9), .ref (a + 10), vi 0, .ref (a + 11), .null, .null, .null, vi 0, vi 0, vi 0, vi 0, vi 0, vi 0, vi 0, vi 0, .null, vi 0, vi 0, .null, .null, vi 0]) := (congrFun eh91 _).trans hup_s
  have n8__21 : h91 (a + 1) = some (ai G 740 (fun _ => (0 : Int))) := (congrFun eh91 _).trans ((hup_n (by first | exact nea (by decide) | exact nea0 (by decide) | exact nea1 (by decide) | omega)).trans n8__20)
  have n16__19 : h91 (a + 2) = some (ai G 86 (fun _ => (0 : Int))) := (congrFun eh91 _).trans ((hup_n (by first | exact nea (by decide) | exact nea0 (by decide) | exact nea1 (by decide) | omega)).trans n16__18)
  have n24__17 : h91 (a + 3) = some (ai G 86 (fun _ => (0 : Int))) := (congrFun eh91 _).trans ((hup_n (by first | exact nea (by decide) | exact nea0 (by decide) | exact nea1 (by decide) | omega)).trans n24__16)
  have n33__15 : h91 (a + 4) = some (ai G 172 (fun _ => (0 : Int))) := (congrFun eh91 _).trans ((hup_n (by first | exact nea (by decide) | exact nea0 (by decide) | exact nea1 (by decide) | omega)).trans n33__14)
  have n42__13 : h91 (a + 5) = some (ai G 688 (fun _ => (0 : Int))) := (congrFun eh91 _).trans ((hup_n (by first | exact nea (by decide) | exact nea0 (by decide) | exact nea1 (by decide) | omega)).trans n42__12)
  have n50__11 : h91 (a + 6) = some (ai G 86 (fun _ => (0 : Int))) := (congrFun eh91 _).trans ((hup_n (by first | exact nea (by decide) | exact nea0 (by decide) | exact nea1 (by decide) | omega)).trans n50__10)
  have n58__9 : h91 (a + 7) = some (ai G 86 (fun _ => (0 : Int))) := (congrFun eh91 _).trans ((hup_n (by first | exact nea (by decide) | exact nea0 (by decide) | exact nea1 (by decide) | omega)).trans n58__8)
  have n66__7 : h91 (a + 8) = some (ai G 86 (fun _ => (0 : Int))) := (congrFun eh91 _).trans ((hup_n (by first | exact nea (by decide) | exact nea0 (by decide) | exact nea1 (by decide) | omega)).trans n66__6)
  have n74__5 : h91 (a + 9) = some (al G 8 (fun _ => (0 : Int))) := (congrFun eh91 _).trans ((hup_n (by first | exact nea (by decide) | exact nea0 (by decide) | exact nea1 (by decide) | omega)).trans n74__4)
  have n81__3 : h91 (a + 10) = some (az G 2 (fun _ => (0 : Int))) := (congrFun eh91 _).trans ((hup_n (by first | exact nea (by decide) | exact nea0 (by decide) | exact nea1 (by decide) | omega)).trans n81__2)
  have n89__1 : h91 (a + 11) = some (ai G 64 (fun _ => (0 : Int))) := (congrFun eh91 _).trans ((hup_n (by first | exact nea (by decide) | exact nea0 (by decide) | exact nea1 (by decide) | omega)).trans n89_)
  have fr__21 : ∀ q : Nat, q < a → h91 q = h q := fun q hq => (congrFun eh91 q).trans ((hup_n (by omega)).trans (fr__20 q hq))
  clear ho__20 n8__20 n16__18 n24__16 n33__14 n42__12 n50__10 n58__8 n66__6 n74__4 n81__2 n89_ fr__20 eh91
  refine g_aload_n k rfl dX10_init_94 ?_
  refine g_bipush k rfl dX10_init_95 ?_
  refine g_newi k (n := 72) (by decide) (by decide) ac_int (by omega) (by omega) dX10_init_97 (fun h97 eh97 => ?_)
  have ho__22 : h97 a = some (ob 10 [vi 0, .ref (a + 1), vi 0, vi 0, vi 0, vi 0, vi 0, vi 0, vi 0, vl 0, .ref (a + 2), .ref (a + 3), .ref (a + 4), .ref (a + 5), .ref (a + 6), .ref (a + 7), .ref (a + 8), .ref (a + 9), .ref (a + 10), vi 0, .ref (a + 11), .null, .null, .null, vi 0, vi 0, vi 0, vi 0, vi 0, vi 0, vi 0, vi 0, .null, vi 0, vi 0, .null, .null, vi 0]) := (congrFun eh97 _).trans ((hup_n (by first | exact nea (by decide) | exact nea0 (by decide) | exact nea1 (by decide) | omega)).trans ho__21)
  have n8__22 : h97 (a + 1) = some (ai G 740 (fun _ => (0 : Int))) := (congrFun eh97 _).trans ((hup_n (by first | exact nea (by decide) | exact nea0 (by decide) | exact nea1 (by decide) | omega)).trans n8__21)
  have n16__20 : h97 (a + 2) = some (ai G 86 (fun _ => (0 : Int))) := (congrFun eh97 _).trans ((hup_n (by first | exact nea (by decide) | exact nea0 (by decide) | exact nea1 (by decide) | omega)).trans n16__19)
  have n24__18 : h97 (a + 3) = some (ai G 86 (fun _ => (0 : Int))) := (congrFun eh97 _).trans ((hup_n (by first | exact nea (by decide) | exact nea0 (by decide) | exact nea1 (by decide) | omega)).trans n24__17)
  have n33__16 : h97 (a + 4) = some (ai G 172 (fun _ => (0 : Int))) := (congrFun eh97 _).trans ((hup_n (by first | exact nea (by decide) | exact nea0 (by decide) | exact nea1 (by decide) | omega)).trans n33__15)
  have n42__14 : h97 (a + 5) = some (ai G 688 (fun _ => (0 : Int))) := (congrFun eh97 _).trans ((hup_n (by first | exact nea (by decide) | exact nea0 (by decide) | exact nea1 (by decide) | omega)).trans n42__13)
  have n50__12 : h97 (a + 6) = some (ai G 86 (fun _ => (0 : Int))) := (congrFun eh97 _).trans ((hup_n (by first | exact nea (by decide) | exact nea0 (by decide) | exact nea1 (by decide) | omega)).trans n50__11)
  have n58__10 : h97 (a + 7) = some (ai G 86 (fun _ => (0 : Int))) := (congrFun eh97 _).trans ((hup_n (by first | exact nea (by decide) | exact nea0 (by decide) | exact nea1 (by decide) | omega)).trans n58__9)
  have n66__8 : h97 (a + 8) = some (ai G 86 (fun _ => (0 : Int))) := (congrFun eh97 _).trans ((hup_n (by first | exact nea (by decide) | exact nea0 (by decide) | exact nea1 (by decide) | omega)).trans n66__7)
  have n74__6 : h97 (a + 9) = some (al G 8 (fun _ => (0 : Int))) := (congrFun eh97 _).trans ((hup_n (by first | exact nea (by decide) | exact nea0 (by decide) | exact nea1 (by decide) | omega)).trans n74__5)
  have n81__4 : h97 (a + 10) = some (az G 2 (fun _ => (0 : Int))) := (congrFun eh97 _).trans ((hup_n (by first | exact nea (by decide) | exact nea0 (by decide) | exact nea1 (by decide) | omega)).trans n81__3)
  have n89__2 : h97 (a + 11) = some (ai G 64 (fun _ => (0 : Int))) := (congrFun eh97 _).trans ((hup_n (by first | exact nea (by decide) | exact nea0 (by decide) | exact nea1 (by decide) | omega)).trans n89__1)
  have fr__22 : ∀ q : Nat, q < a → h97 q = h q := fun q hq => (congrFun eh97 q).trans ((hup_n (by omega)).trans (fr__21 q hq))
  have n97_ : h97 (a + 12) = some (ai G 72 (fun _ => (0 : Int))) := (congrFun eh97 _).trans hup_s
  clear ho__21 n8__21 n16__19 n24__17 n33__15 n42__13 n50__11 n58__9 n66__7 n74__5 n81__3 n89__1 fr__21 eh97
  refine g_nx (c2 := 12) (s2 := 2176) (n2 := a + 13) (by omega) (by omega) (by omega) ?_
  refine g_putF k 10 21 (C := RX10) (T := TX10) (N := 38) fl_X10_106 rfl wi_X10 tyX10 tyX10_ok nmX10 (by decide) rfl rfl rfl rfl ho__22 (Nat.le_of_ble_eq_true rfl) (fs2 := [vi 0, .ref (a + 1), vi 0, vi 0, vi 0, vi 0, vi 0, vi 0, vi 0, vl 0, .ref (a + 2), .ref (a + 3), .ref (a + 4), .ref (a + 5), .ref (a + 6), .ref (a + 7), .ref (a + 8), .ref (a + 9), .ref (a + 10), vi 0, .ref (a + 11), .ref (a + 12), .null, .null, vi 0, vi 0, vi 0, vi 0, vi 0, vi 0, vi 0, vi 0, .null, vi 0, vi 0, .null, .null, vi 0]) rfl rfl rfl rfl dX10_init_99 (fun h99 eh99 => ?_)
  have ho__23 : h99 a = some (ob 10 [vi 0, .ref (a + 1), vi 0, vi 0, vi 0, vi 0, vi 0, vi 0, vi 0, vl 0, .ref (a + 2), .ref (a + 3), .ref (a + 4), .ref (a + 5), .ref (a + 6), .ref (a + 7), .ref (a + 8), .ref (a + 9), .ref (a + 10), vi 0, .ref (a + 11), .ref (a + 12), .null, .null, vi 0, vi 0, vi 0, vi 0, vi 0, vi 0, vi 0, vi 0, .null, vi 0, vi 0, .null, .null, vi 0]) := (congrFun eh99 _).trans hup_s
  have n8__23 : h99 (a + 1) = some (ai G 740 (fun _ => (0 : Int))) := (congrFun eh99 _).trans ((hup_n (by first | exact nea (by decide) | exact nea0 (by decide) | exact nea1 (by decide) | omega)).trans n8__22)
  have n16__21 : h99 (a + 2) = some (ai G 86 (fun _ => (0 : Int))) := (congrFun eh99 _).trans ((hup_n (by first | exact nea (by decide) | exact nea0 (by decide) | exact nea1 (by decide) | omega)).trans n16__20)
  have n24__19 : h99 (a + 3) = some (ai G 86 (fun _ => (0 : Int))) := (congrFun eh99 _).trans ((hup_n (by first | exact nea (by decide) | exact nea0 (by decide) | exact nea1 (by decide) | omega)).trans n24__18)
  have n33__17 : h99 (a + 4) = some (ai G 172 (fun _ => (0 : Int))) := (congrFun eh99 _).trans ((hup_n (by first | exact nea (by decide) | exact nea0 (by decide) | exact nea1 (by decide) | omega)).trans n33__16)
  have n42__15 : h99 (a + 5) = some (ai G 688 (fun _ => (0 : Int))) := (congrFun eh99 _).trans ((hup_n (by first | exact nea (by decide) | exact nea0 (by decide) | exact nea1 (by decide) | omega)).trans n42__14)
  have n50__13 : h99 (a + 6) = some (ai G 86 (fun _ => (0 : Int))) := (congrFun eh99 _).trans ((hup_n (by first | exact nea (by decide) | exact nea0 (by decide) | exact nea1 (by decide) | omega)).trans n50__12)
  have n58__11 : h99 (a + 7) = some (ai G 86 (fun _ => (0 : Int))) := (congrFun eh99 _).trans ((hup_n (by first | exact nea (by decide) | exact nea0 (by decide) | exact nea1 (by decide) | omega)).trans n58__10)
  have n66__9 : h99 (a + 8) = some (ai G 86 (fun _ => (0 : Int))) := (congrFun eh99 _).trans ((hup_n (by first | exact nea (by decide) | exact nea0 (by decide) | exact nea1 (by decide) | omega)).trans n66__8)
  have n74__7 : h99 (a + 9) = some (al G 8 (fun _ => (0 : Int))) := (congrFun eh99 _).trans ((hup_n (by first | exact nea (by decide) | exact nea0 (by decide) | exact nea1 (by decide) | omega)).trans n74__6)
  have n81__5 : h99 (a + 10) = some (az G 2 (fun _ => (0 : Int))) := (congrFun eh99 _).trans ((hup_n (by first | exact nea (by decide) | exact nea0 (by decide) | exact nea1 (by decide) | omega)).trans n81__4)
  have n89__3 : h99 (a + 11) = some (ai G 64 (fun _ => (0 : Int))) := (congrFun eh99 _).trans ((hup_n (by first | exact nea (by decide) | exact nea0 (by decide) | exact nea1 (by decide) | omega)).trans n89__2)
  have n97__1 : h99 (a + 12) = some (ai G 72 (fun _ => (0 : Int))) := (congrFun eh99 _).trans ((hup_n (by first | exact nea (by decide) | exact nea0 (by decide) | exact nea1 (by decide) | omega)).trans n97_)
  have fr__23 : ∀ q : Nat, q < a → h99 q = h q := fun q hq => (congrFun eh99 q).trans ((hup_n (by omega)).trans (fr__22 q hq))
  clear ho__22 n8__22 n16__20 n24__18 n33__16 n42__14 n50__12 n58__10 n66__8 n74__6 n81__4 n89__2 n97_ fr__22 eh99
  refine g_aload_n k rfl dX10_init_102 ?_
  refine g_bipush k rfl dX10_init_103 ?_
  refine g_newi k (n := 8) (by decide) (by decide) ac_int (by omega) (by omega) dX10_init_105 (fun h105 eh105 => ?_)
  have ho__24 : h105 a = some (ob 10 [vi 0, .ref (a + 1), vi 0, vi 0, vi 0, vi 0, vi 0, vi 0, vi 0, vl 0, .ref (a + 2), .ref (a + 3), .ref (a + 4), .ref (a + 5), .ref (a + 6), .ref (a + 7), .ref (a + 8), .ref (a + 9), .ref (a + 10), vi 0, .ref (a + 11), .ref (a + 12), .null, .null, vi 0, vi 0, vi 0, vi 0, vi 0, vi 0, vi 0, vi 0, .null, vi 0, vi 0, .null, .null, vi 0]) := (congrFun eh105 _).trans ((hup_n (by first | exact nea (by decide) | exact nea0 (by decide) | exact nea1 (by decide) | omega)).trans ho__23)
  have n8__24 : h105 (a + 1) = some (ai G 740 (fun _ => (0 : Int))) := (congrFun eh105 _).trans ((hup_n (by first | exact nea (by decide) | exact nea0 (by decide) | exact nea1 (by decide) | omega)).trans n8__23)
  have n16__22 : h105 (a + 2) = some (ai G 86 (fun _ => (0 : Int))) := (congrFun eh105 _).trans ((hup_n (by first | exact nea (by decide) | exact nea0 (by decide) | exact nea1 (by decide) | omega)).trans n16__21)
  have n24__20 : h105 (a + 3) = some (ai G 86 (fun _ => (0 : Int))) := (congrFun eh105 _).trans ((hup_n (by first | exact nea (by decide) | exact nea0 (by decide) | exact nea1 (by decide) | omega)).trans n24__19)
  have n33__18 : h105 (a + 4) = some (ai G 172 (fun _ => (0 : Int))) := (congrFun eh105 _).trans ((hup_n (by first | exact nea (by decide) | exact nea0 (by decide) | exact nea1 (by decide) | omega)).trans n33__17)
  have n42__16 : h105 (a + 5) = some (ai G 688 (fun _ => (0 : Int))) := (congrFun eh105 _).trans ((hup_n (by first | exact nea (by decide) | exact nea0 (by decide) | exact nea1 (by decide) | omega)).trans n42__15)
  have n50__14 : h105 (a + 6) = some (ai G 86 (fun _ => (0 : Int))) := (congrFun eh105 _).trans ((hup_n (by first | exact nea (by decide) | exact nea0 (by decide) | exact nea1 (by decide) | omega)).trans n50__13)
  have n58__12 : h105 (a + 7) = some (ai G 86 (fun _ => (0 : Int))) := (congrFun eh105 _).trans ((hup_n (by first | exact nea (by decide) | exact nea0 (by decide) | exact nea1 (by decide) | omega)).trans n58__11)
  have n66__10 : h105 (a + 8) = some (ai G 86 (fun _ => (0 : Int))) := (congrFun eh105 _).trans ((hup_n (by first | exact nea (by decide) | exact nea0 (by decide) | exact nea1 (by decide) | omega)).trans n66__9)
  have n74__8 : h105 (a + 9) = some (al G 8 (fun _ => (0 : Int))) := (congrFun eh105 _).trans ((hup_n (by first | exact nea (by decide) | exact nea0 (by decide) | exact nea1 (by decide) | omega)).trans n74__7)
  have n81__6 : h105 (a + 10) = some (az G 2 (fun _ => (0 : Int))) := (congrFun eh105 _).trans ((hup_n (by first | exact nea (by decide) | exact nea0 (by decide) | exact nea1 (by decide) | omega)).trans n81__5)
  have n89__4 : h105 (a + 11) = some (ai G 64 (fun _ => (0 : Int))) := (congrFun eh105 _).trans ((hup_n (by first | exact nea (by decide) | exact nea0 (by decide) | exact nea1 (by decide) | omega)).trans n89__3)
  have n97__2 : h105 (a + 12) = some (ai G 72 (fun _ => (0 : Int))) := (congrFun eh105 _).trans ((hup_n (by first | exact nea (by decide) | exact nea0 (by decide) | exact nea1 (by decide) | omega)).trans n97__1)
  have fr__24 : ∀ q : Nat, q < a → h105 q = h q := fun q hq => (congrFun eh105 q).trans ((hup_n (by omega)).trans (fr__23 q hq))
  have n105_ : h105 (a + 13) = some (ai G 8 (fun _ => (0 : Int))) := (congrFun eh105 _).trans hup_s
  clear ho__23 n8__23 n16__21 n24__19 n33__17 n42__15 n50__13 n58__11 n66__9 n74__7 n81__5 n89__3 n97__1 fr__23 eh105
  refine g_nx (c2 := 13) (s2 := 2184) (n2 := a + 14) (by omega) (by omega) (by omega) ?_
  refine g_putF k 10 22 (C := RX10) (T := TX10) (N := 38) fl_X10_109 rfl wi_X10 tyX10 tyX10_ok nmX10 (by decide) rfl rfl rfl rfl ho__24 (Nat.le_of_ble_eq_true rfl) (fs2 := [vi 0, .ref (a + 1), vi 0, vi 0, vi 0, vi 0, vi 0, vi 0, vi 0, vl 0, .ref (a + 2), .ref (a + 3), .ref (a + 4), .ref (a + 5), .ref (a + 6), .ref (a + 7), .ref (a + 8), .ref (a + 9), .ref (a + 10), vi 0, .ref (a + 11), .ref (a + 12), .ref (a + 13), .null, vi 0, vi 0, vi 0, vi 0, vi 0, vi 0, vi 0, vi 0, .null, vi 0, vi 0, .null, .null, vi 0]) rfl rfl rfl rfl dX10_init_107 (fun h107 eh107 => ?_)
  have ho__25 : h107 a = some (ob 10 [vi 0, .ref (a + 1), vi 0, vi 0, vi 0, vi 0, vi 0, vi 0, vi 0, vl 0, .ref (a + 2), .ref (a + 3), .ref (a + 4), .ref (a + 5), .ref (a + 6), .ref (a + 7), .ref (a + 8), .ref (a + 9), .ref (a + 10), vi 0, .ref (a + 11), .ref (a + 12), .ref (a + 13), .null, vi 0, vi 0, vi 0, vi 0, vi 0, vi 0, vi 0, vi 0, .null, vi 0, vi 0, .null, .null, vi 0]) := (congrFun eh107 _).trans hup_s
  have n8__25 : h107 (a + 1) = some (ai G 740 (fun _ => (0 : Int))) := (congrFun eh107 _).trans ((hup_n (by first | exact nea (by decide) | exact nea0 (by decide) | exact nea1 (by decide) | omega)).trans n8__24)
  have n16__23 : h107 (a + 2) = some (ai G 86 (fun _ => (0 : Int))) := (congrFun eh107 _).trans ((hup_n (by first | exact nea (by decide) | exact nea0 (by decide) | exact nea1 (by decide) | omega)).trans n16__22)
  have n24__21 : h107 (a + 3) = some (ai G 86 (fun _ => (0 : Int))) := (congrFun eh107 _).trans ((hup_n (by first | exact nea (by decide) | exact nea0 (by decide) | exact nea1 (by decide) | omega)).trans n24__20)
  have n33__19 : h107 (a + 4) = some (ai G 172 (fun _ => (0 : Int))) := (congrFun eh107 _).trans ((hup_n (by first | exact nea (by decide) | exact nea0 (by decide) | exact nea1 (by decide) | omega)).trans n33__18)
  have n42__17 : h107 (a + 5) = some (ai G 688 (fun _ => (0 : Int))) := (congrFun eh107 _).trans ((hup_n (by first | exact nea (by decide) | exact nea0 (by decide) | exact nea1 (by decide) | omega)).trans n42__16)
  have n50__15 : h107 (a + 6) = some (ai G 86 (fun _ => (0 : Int))) := (congrFun eh107 _).trans ((hup_n (by first | exact nea (by decide) | exact nea0 (by decide) | exact nea1 (by decide) | omega)).trans n50__14)
  have n58__13 : h107 (a + 7) = some (ai G 86 (fun _ => (0 : Int))) := (congrFun eh107 _).trans ((hup_n (by first | exact nea (by decide) | exact nea0 (by decide) | exact nea1 (by decide) | omega)).trans n58__12)
  have n66__11 : h107 (a + 8) = some (ai G 86 (fun _ => (0 : Int))) := (congrFun eh107 _).trans ((hup_n (by first | exact nea (by decide) | exact nea0 (by decide) | exact nea1 (by decide) | omega)).trans n66__10)
  have n74__9 : h107 (a + 9) = some (al G 8 (fun _ => (0 : Int))) := (congrFun eh107 _).trans ((hup_n (by first | exact nea (by decide) | exact nea0 (by decide) | exact nea1 (by decide) | omega)).trans n74__8)
  have n81__7 : h107 (a + 10) = some (az G 2 (fun _ => (0 : Int))) := (congrFun eh107 _).trans ((hup_n (by first | exact nea (by decide) | exact nea0 (by decide) | exact nea1 (by decide) | omega)).trans n81__6)
  have n89__5 : h107 (a + 11) = some (ai G 64 (fun _ => (0 : Int))) := (congrFun eh107 _).trans ((hup_n (by first | exact nea (by decide) | exact nea0 (by decide) | exact nea1 (by decide) | omega)).trans n89__4)
  have n97__3 : h107 (a + 12) = some (ai G 72 (fun _ => (0 : Int))) := (congrFun eh107 _).trans ((hup_n (by first | exact nea (by decide) | exact nea0 (by decide) | exact nea1 (by decide) | omega)).trans n97__2)
  have n105__1 : h107 (a + 13) = some (ai G 8 (fun _ => (0 : Int))) := (congrFun eh107 _).trans ((hup_n (by first | exact nea (by decide) | exact nea0 (by decide) | exact nea1 (by decide) | omega)).trans n105_)
  have fr__25 : ∀ q : Nat, q < a → h107 q = h q := fun q hq => (congrFun eh107 q).trans ((hup_n (by omega)).trans (fr__24 q hq))
  clear ho__24 n8__24 n16__22 n24__20 n33__18 n42__16 n50__14 n58__12 n66__10 n74__8 n81__6 n89__4 n97__2 n105_ fr__24 eh107
  refine g_aload_n k rfl dX10_init_110 ?_
  refine g_bipush k rfl dX10_init_111 ?_
  refine g_newi k (n := 8) (by decide) (by decide) ac_int (by omega) (by omega) dX10_init_113 (fun h113 eh113 => ?_)
  have ho__26 : h113 a = some (ob 10 [vi 0, .ref (a + 1), vi 0, vi 0, vi 0, vi 0, vi 0, vi 0, vi 0, vl 0, .ref (a + 2), .ref (a + 3), .ref (a + 4), .ref (a + 5), .ref (a + 6), .ref (a + 7), .ref (a + 8), .ref (a + 9), .ref (a + 10), vi 0, .ref (a + 11), .ref (a + 12), .ref (a + 13), .null, vi 0, vi 0, vi 0, vi 0, vi 0, vi 0, vi 0, vi 0, .null, vi 0, vi 0, .null, .null, vi 0]) := (congrFun eh113 _).trans ((hup_n (by first | exact nea (by decide) | exact nea0 (by decide) | exact nea1 (by decide) | omega)).trans ho__25)
  have n8__26 : h113 (a + 1) = some (ai G 740 (fun _ => (0 : Int))) := (congrFun eh113 _).trans ((hup_n (by first | exact nea (by decide) | exact nea0 (by decide) | exact nea1 (by decide) | omega)).trans n8__25)
  have n16__24 : h113 (a + 2) = some (ai G 86 (fun _ => (0 : Int))) := (congrFun eh113 _).trans ((hup_n (by first | exact nea (by decide) | exact nea0 (by decide) | exact nea1 (by decide) | omega)).trans n16__23)
  have n24__22 : h113 (a + 3) = some (ai G 86 (fun _ => (0 : Int))) := (congrFun eh113 _).trans ((hup_n (by first | exact nea (by decide) | exact nea0 (by decide) | exact nea1 (by decide) | omega)).trans n24__21)
  have n33__20 : h113 (a + 4) = some (ai G 172 (fun _ => (0 : Int))) := (congrFun eh113 _).trans ((hup_n (by first | exact nea (by decide) | exact nea0 (by decide) | exact nea1 (by decide) | omega)).trans n33__19)
  have n42__18 : h113 (a + 5) = some (ai G 688 (fun _ => (0 : Int))) := (congrFun eh113 _).trans ((hup_n (by first | exact nea (by decide) | exact nea0 (by decide) | exact nea1 (by decide) | omega)).trans n42__17)
  have n50__16 : h113 (a + 6) = some (ai G 86 (fun _ => (0 : Int))) := (congrFun eh113 _).trans ((hup_n (by first | exact nea (by decide) | exact nea0 (by decide) | exact nea1 (by decide) | omega)).trans n50__15)
  have n58__14 : h113 (a + 7) = some (ai G 86 (fun _ => (0 : Int))) := (congrFun eh113 _).trans ((hup_n (by first | exact nea (by decide) | exact nea0 (by decide) | exact nea1 (by decide) | omega)).trans n58__13)
  have n66__12 : h113 (a + 8) = some (ai G 86 (fun _ => (0 : Int))) := (congrFun eh113 _).trans ((hup_n (by first | exact nea (by decide) | exact nea0 (by decide) | exact nea1 (by decide) | omega)).trans n66__11)
  have n74__10 : h113 (a + 9) = some (al G 8 (fun _ => (0 : Int))) := (congrFun eh113 _).trans ((hup_n (by first | exact nea (by decide) | exact nea0 (by decide) | exact nea1 (by decide) | omega)).trans n74__9)
  have n81__8 : h113 (a + 10) = some (az G 2 (fun _ => (0 : Int))) := (congrFun eh113 _).trans ((hup_n (by first | exact nea (by decide) | exact nea0 (by decide) | exact nea1 (by decide) | omega)).trans n81__7)
  have n89__6 : h113 (a + 11) = some (ai G 64 (fun _ => (0 : Int))) := (congrFun eh113 _).trans ((hup_n (by first | exact nea (by decide) | exact nea0 (by decide) | exact nea1 (by decide) | omega)).trans n89__5)
  have n97__4 : h113 (a + 12) = some (ai G 72 (fun _ => (0 : Int))) := (congrFun eh113 _).trans ((hup_n (by first | exact nea (by decide) | exact nea0 (by decide) | exact nea1 (by decide) | omega)).trans n97__3)
  have n105__2 : h113 (a + 13) = some (ai G 8 (fun _ => (0 : Int))) := (congrFun eh113 _).trans ((hup_n (by first | exact nea (by decide) | exact nea0 (by decide) | exact nea1 (by decide) | omega)).trans n105__1)
  have fr__26 : ∀ q : Nat, q < a → h113 q = h q := fun q hq => (congrFun eh113 q).trans ((hup_n (by omega)).trans (fr__25 q hq))
  have n113_ : h113 (a + 14) = some (ai G 8 (fun _ => (0 : Int))) := (congrFun eh113 _).trans hup_s
  clear ho__25 n8__25 n16__23 n24__21 n33__19 n42__17 n50__15 n58__13 n66__11 n74__9 n81__7 n89__5 n97__3 n105__1 fr__25 eh113
  refine g_nx (c2 := 14) (s2 := 2192) (n2 := a + 15) (by omega) (by omega) (by omega) ?_
  refine g_putF k 10 23 (C := RX10) (T := TX10) (N := 38) fl_X10_112 rfl wi_X10 tyX10 tyX10_ok nmX10 (by decide) rfl rfl rfl rfl ho__26 (Nat.le_of_ble_eq_true rfl) (fs2 := [vi 0, .ref (a + 1), vi 0, vi 0, vi 0, vi 0, vi 0, vi 0, vi 0, vl 0, .ref (a + 2), .ref (a + 3), .ref (a + 4), .ref (a + 5), .ref (a + 6), .ref (a + 7), .ref (a + 8), .ref (a + 9), .ref (a + 10), vi 0, .ref (a + 11), .ref (a + 12), .ref (a + 13), .ref (a + 14), vi 0, vi 0, vi 0, vi 0, vi 0, vi 0, vi 0, vi 0, .null, vi 0, vi 0, .null, .null, vi 0]) rfl rfl rfl rfl dX10_init_115 (fun h115 eh115 => ?_)
  have ho__27 : h115 a = some (ob 10 [vi 0, .ref (a + 1), vi 0, vi 0, vi 0, vi 0, vi 0, vi 0, vi 0, vl 0, .ref (a + 2), .ref (a + 3), .ref (a + 4), .ref (a + 5), .ref (a + 6), .ref (a + 7), .ref (a + 8), .ref (a + 9), .ref (a + 10), vi 0, .ref (a + 11), .ref (a + 12), .ref (a + 13), .ref (a + 14), vi 0, vi 0, vi 0, vi 0, vi 0, vi 0, vi 0, vi 0, .null, vi 0, vi 0, .null, .null, vi 0]) := (congrFun eh115 _).trans hup_s
  have n8__27 : h115 (a + 1) = some (ai G 740 (fun _ => (0 : Int))) := (congrFun eh115 _).trans ((hup_n (by first | exact nea (by decide) | exact nea0 (by decide) | exact nea1 (by decide) | omega)).trans n8__26)
  have n16__25 : h115 (a + 2) = some (ai G 86 (fun _ => (0 : Int))) := (congrFun eh115 _).trans ((hup_n (by first | exact nea (by decide) | exact nea0 (by decide) | exact nea1 (by decide) | omega)).trans n16__24)
  have n24__23 : h115 (a + 3) = some (ai G 86 (fun _ => (0 : Int))) := (congrFun eh115 _).trans ((hup_n (by first | exact nea (by decide) | exact nea0 (by decide) | exact nea1 (by decide) | omega)).trans n24__22)
  have n33__21 : h115 (a + 4) = some (ai G 172 (fun _ => (0 : Int))) := (congrFun eh115 _).trans ((hup_n (by first | exact nea (by decide) | exact nea0 (by decide) | exact nea1 (by decide) | omega)).trans n33__20)
  have n42__19 : h115 (a + 5) = some (ai G 688 (fun _ => (0 : Int))) := (congrFun eh115 _).trans ((hup_n (by first | exact nea (by decide) | exact nea0 (by decide) | exact nea1 (by decide) | omega)).trans n42__18)
  have n50__17 : h115 (a + 6) = some (ai G 86 (fun _ => (0 : Int))) := (congrFun eh115 _).trans ((hup_n (by first | exact nea (by decide) | exact nea0 (by decide) | exact nea1 (by decide) | omega)).trans n50__16)
  have n58__15 : h115 (a + 7) = some (ai G 86 (fun _ => (0 : Int))) := (congrFun eh115 _).trans ((hup_n (by first | exact nea (by decide) | exact nea0 (by decide) | exact nea1 (by decide) | omega)).trans n58__14)
  have n66__13 : h115 (a + 8) = some (ai G 86 (fun _ => (0 : Int))) := (congrFun eh115 _).trans ((hup_n (by first | exact nea (by decide) | exact nea0 (by decide) | exact nea1 (by decide) | omega)).trans n66__12)
  have n74__11 : h115 (a + 9) = some (al G 8 (fun _ => (0 : Int))) := (congrFun eh115 _).trans ((hup_n (by first | exact nea (by decide) | exact nea0 (by decide) | exact nea1 (by decide) | omega)).trans n74__10)
  have n81__9 : h115 (a + 10) = some (az G 2 (fun _ => (0 : Int))) := (congrFun eh115 _).trans ((hup_n (by first | exact nea (by decide) | exact nea0 (by decide) | exact nea1 (by decide) | omega)).trans n81__8)
  have n89__7 : h115 (a + 11) = some (ai G 64 (fun _ => (0 : Int))) := (congrFun eh115 _).trans ((hup_n (by first | exact nea (by decide) | exact nea0 (by decide) | exact nea1 (by decide) | omega)).trans n89__6)
  have n97__5 : h115 (a + 12) = some (ai G 72 (fun _ => (0 : Int))) := (congrFun eh115 _).trans ((hup_n (by first | exact nea (by decide) | exact nea0 (by decide) | exact nea1 (by decide) | omega)).trans n97__4)
  have n105__3 : h115 (a + 13) = some (ai G 8 (fun _ => (0 : Int))) := (congrFun eh115 _).trans ((hup_n (by first | exact nea (by decide) | exact nea0 (by decide) | exact nea1 (by decide) | omega)).trans n105__2)
  have n113__1 : h115 (a + 14) = some (ai G 8 (fun _ => (0 : Int))) := (congrFun eh115 _).trans ((hup_n (by first | exact nea (by decide) | exact nea0 (by decide) | exact nea1 (by decide) | omega)).trans n113_)
  have fr__27 : ∀ q : Nat, q < a → h115 q = h q := fun q hq => (congrFun eh115 q).trans ((hup_n (by omega)).trans (fr__26 q hq))
  clear ho__26 n8__26 n16__24 n24__22 n33__20 n42__18 n50__16 n58__14 n66__12 n74__10 n81__8 n89__6 n97__4 n105__2 n113_ fr__26 eh115
  refine g_aload_n k rfl dX10_init_118 ?_
  refine g_iconst k dX10_init_119 ?_
  refine g_put k 10 28 (C := RX10) (T := TX10) (N := 38) fl_X10_115 rfl wi_X10 tyX10 tyX10_ok nmX10 (by decide) rfl rfl rfl rfl ho__27 (Nat.le_of_ble_eq_true rfl) (fs2 := [vi 0, .ref (a + 1), vi 0, vi 0, vi 0, vi 0, vi 0, vi 0, vi 0, vl 0, .ref (a + 2), .ref (a + 3), .ref (a + 4), .ref (a + 5), .ref (a + 6), .ref (a + 7), .ref (a + 8), .ref (a + 9), .ref (a + 10), vi 0, .ref (a + 11), .ref (a + 12), .ref (a + 13), .ref (a + 14), vi 0, vi 0, vi 0, vi 0, vi (-1), vi 0, vi 0, vi 0, .null, vi 0, vi 0, .null, .null, vi 0]) rfl rfl dX10_init_120 (fun h120 eh120 => ?_)
  have ho__28 : h120 a = some (ob 10 [vi 0, .ref (a + 1), vi 0, vi 0, vi 0, vi 0, vi 0, vi 0, vi 0, vl 0, .ref (a + 2), .ref (a + 3), .ref (a + 4), .ref (a + 5), .ref (a + 6), .ref (a + 7), .ref (a + 8), .ref (a + 9), .ref (a + 10), vi 0, .ref (a + 11), .ref (a + 12), .ref (a + 13), .ref (a + 14), vi 0, vi 0, vi 0, vi 0, vi (-1), vi 0, vi 0, vi 0, .null, vi 0, vi 0, .null, .null, vi 0]) := (congrFun eh120 _).trans hup_s
  have n8__28 : h120 (a + 1) = some (ai G 740 (fun _ => (0 : Int))) := (congrFun eh120 _).trans ((hup_n (by first | exact nea (by decide) | exact nea0 (by decide) | exact nea1 (by decide) | omega)).trans n8__27)
  have n16__26 : h120 (a + 2) = some (ai G 86 (fun _ => (0 : Int))) := (congrFun eh120 _).trans ((hup_n (by first | exact nea (by decide) | exact nea0 (by decide) | exact nea1 (by decide) | omega)).trans n16__25)
  have n24__24 : h120 (a + 3) = some (ai G 86 (fun _ => (0 : Int))) := (congrFun eh120 _).trans ((hup_n (by first | exact nea (by decide) | exact nea0 (by decide) | exact nea1 (by decide) | omega)).trans n24__23)
  have n33__22 : h120 (a + 4) = some (ai G 172 (fun _ => (0 : Int))) := (congrFun eh120 _).trans ((hup_n (by first | exact nea (by decide) | exact nea0 (by decide) | exact nea1 (by decide) | omega)).trans n33__21)
  have n42__20 : h120 (a + 5) = some (ai G 688 (fun _ => (0 : Int))) := (congrFun eh120 _).trans ((hup_n (by first | exact nea (by decide) | exact nea0 (by decide) | exact nea1 (by decide) | omega)).trans n42__19)
  have n50__18 : h120 (a + 6) = some (ai G 86 (fun _ => (0 : Int))) := (congrFun eh120 _).trans ((hup_n (by first | exact nea (by decide) | exact nea0 (by decide) | exact nea1 (by decide) | omega)).trans n50__17)
  have n58__16 : h120 (a + 7) = some (ai G 86 (fun _ => (0 : Int))) := (congrFun eh120 _).trans ((hup_n (by first | exact nea (by decide) | exact nea0 (by decide) | exact nea1 (by decide) | omega)).trans n58__15)
  have n66__14 : h120 (a + 8) = some (ai G 86 (fun _ => (0 : Int))) := (congrFun eh120 _).trans ((hup_n (by first | exact nea (by decide) | exact nea0 (by decide) | exact nea1 (by decide) | omega)).trans n66__13)
  have n74__12 : h120 (a + 9) = some (al G 8 (fun _ => (0 : Int))) := (congrFun eh120 _).trans ((hup_n (by first | exact nea (by decide) | exact nea0 (by decide) | exact nea1 (by decide) | omega)).trans n74__11)
  have n81__10 : h120 (a + 10) = some (az G 2 (fun _ => (0 : Int))) := (congrFun eh120 _).trans ((hup_n (by first | exact nea (by decide) | exact nea0 (by decide) | exact nea1 (by decide) | omega)).trans n81__9)
  have n89__8 : h120 (a + 11) = some (ai G 64 (fun _ => (0 : Int))) := (congrFun eh120 _).trans ((hup_n (by first | exact nea (by decide) | exact nea0 (by decide) | exact nea1 (by decide) | omega)).trans n89__7)
  have n97__6 : h120 (a + 12) = some (ai G 72 (fun _ => (0 : Int))) := (congrFun eh120 _).trans ((hup_n (by first | exact nea (by decide) | exact nea0 (by decide) | exact nea1 (by decide) | omega)).trans n97__5)
  have n105__4 : h120 (a + 13) = some (ai G 8 (fun _ => (0 : Int))) := (congrFun eh120 _).trans ((hup_n (by first | exact nea (by decide) | exact nea0 (by decide) | exact nea1 (by decide) | omega)).trans n105__3)
  have n113__2 : h120 (a + 14) = some (ai G 8 (fun _ => (0 : Int))) := (congrFun eh120 _).trans ((hup_n (by first | exact nea (by decide) | exact nea0 (by decide) | exact nea1 (by decide) | omega)).trans n113__1)
  have fr__28 : ∀ q : Nat, q < a → h120 q = h q := fun q hq => (congrFun eh120 q).trans ((hup_n (by omega)).trans (fr__27 q hq))
  clear ho__27 n8__27 n16__25 n24__23 n33__21 n42__19 n50__17 n58__15 n66__13 n74__11 n81__9 n89__7 n97__5 n105__3 n113__1 fr__27 eh120
  refine g_aload_n k rfl dX10_init_123 ?_
  refine g_bipush k rfl dX10_init_124 ?_
  refine g_newi k (n := 8) (by decide) (by decide) ac_int (by omega) (by omega) dX10_init_126 (fun h126 eh126 => ?_)
  have ho__29 : h126 a = some (ob 10 [vi 0, .ref (a + 1), vi 0, vi 0, vi 0, vi 0, vi 0, vi 0, vi 0, vl 0, .ref (a + 2), .ref (a + 3), .ref (a + 4), .ref (a + 5), .ref (a + 6), .ref (a + 7), .ref (a + 8), .ref (a + 9), .ref (a + 10), vi 0, .ref (a + 11), .ref (a + 12), .ref (a + 13), .ref (a + 14), vi 0, vi 0, vi 0, vi 0, vi (-1), vi 0, vi 0, vi 0, .null, vi 0, vi 0, .null, .null, vi 0]) := (congrFun eh126 _).trans ((hup_n (by first | exact nea (by decide) | exact nea0 (by decide) | exact nea1 (by decide) | omega)).trans ho__28)
  have n8__29 : h126 (a + 1) = some (ai G 740 (fun _ => (0 : Int))) := (congrFun eh126 _).trans ((hup_n (by first | exact nea (by decide) | exact nea0 (by decide) | exact nea1 (by decide) | omega)).trans n8__28)
  have n16__27 : h126 (a + 2) = some (ai G 86 (fun _ => (0 : Int))) := (congrFun eh126 _).trans ((hup_n (by first | exact nea (by decide) | exact nea0 (by decide) | exact nea1 (by decide) | omega)).trans n16__26)
  have n24__25 : h126 (a + 3) = some (ai G 86 (fun _ => (0 : Int))) := (congrFun eh126 _).trans ((hup_n (by first | exact nea (by decide) | exact nea0 (by decide) | exact nea1 (by decide) | omega)).trans n24__24)
  have n33__23 : h126 (a + 4) = some (ai G 172 (fun _ => (0 : Int))) := (congrFun eh126 _).trans ((hup_n (by first | exact nea (by decide) | exact nea0 (by decide) | exact nea1 (by decide) | omega)).trans n33__22)
  have n42__21 : h126 (a + 5) = some (ai G 688 (fun _ => (0 : Int))) := (congrFun eh126 _).trans ((hup_n (by first | exact nea (by decide) | exact nea0 (by decide) | exact nea1 (by decide) | omega)).trans n42__20)
  have n50__19 : h126 (a + 6) = some (ai G 86 (fun _ => (0 : Int))) := (congrFun eh126 _).trans ((hup_n (by first | exact nea (by decide) | exact nea0 (by decide) | exact nea1 (by decide) | omega)).trans n50__18)
  have n58__17 : h126 (a + 7) = some (ai G 86 (fun _ => (0 : Int))) := (congrFun eh126 _).trans ((hup_n (by first | exact nea (by decide) | exact nea0 (by decide) | exact nea1 (by decide) | omega)).trans n58__16)
  have n66__15 : h126 (a + 8) = some (ai G 86 (fun _ => (0 : Int))) := (congrFun eh126 _).trans ((hup_n (by first | exact nea (by decide) | exact nea0 (by decide) | exact nea1 (by decide) | omega)).trans n66__14)
  have n74__13 : h126 (a + 9) = some (al G 8 (fun _ => (0 : Int))) := (congrFun eh126 _).trans ((hup_n (by first | exact nea (by decide) | exact nea0 (by decide) | exact nea1 (by decide) | omega)).trans n74__12)
  have n81__11 : h126 (a + 10) = some (az G 2 (fun _ => (0 : Int))) := (congrFun eh126 _).trans ((hup_n (by first | exact nea (by decide) | exact nea0 (by decide) | exact nea1 (by decide) | omega)).trans n81__10)
  have n89__9 : h126 (a + 11) = some (ai G 64 (fun _ => (0 : Int))) := (congrFun eh126 _).trans ((hup_n (by first | exact nea (by decide) | exact nea0 (by decide) | exact nea1 (by decide) | omega)).trans n89__8)
  have n97__7 : h126 (a + 12) = some (ai G 72 (fun _ => (0 : Int))) := (congrFun eh126 _).trans ((hup_n (by first | exact nea (by decide) | exact nea0 (by decide) | exact nea1 (by decide) | omega)).trans n97__6)
  have n105__5 : h126 (a + 13) = some (ai G 8 (fun _ => (0 : Int))) := (congrFun eh126 _).trans ((hup_n (by first | exact nea (by decide) | exact nea0 (by decide) | exact nea1 (by decide) | omega)).trans n105__4)
  have n113__3 : h126 (a + 14) = some (ai G 8 (fun _ => (0 : Int))) := (congrFun eh126 _).trans ((hup_n (by first | exact nea (by decide) | exact nea0 (by decide) | exact nea1 (by decide) | omega)).trans n113__2)
  have fr__29 : ∀ q : Nat, q < a → h126 q = h q := fun q hq => (congrFun eh126 q).trans ((hup_n (by omega)).trans (fr__28 q hq))
  have n126_ : h126 (a + 15) = some (ai G 8 (fun _ => (0 : Int))) := (congrFun eh126 _).trans hup_s
  clear ho__28 n8__28 n16__26 n24__24 n33__22 n42__20 n50__18 n58__16 n66__14 n74__12 n81__10 n89__8 n97__6 n105__4 n113__2 fr__28 eh126
  refine g_nx (c2 := 15) (s2 := 2200) (n2 := a + 16) (by omega) (by omega) (by omega) ?_
  refine g_putF k 10 32 (C := RX10) (T := TX10) (N := 38) fl_X10_118 rfl wi_X10 tyX10 tyX10_ok nmX10 (by decide) rfl rfl rfl rfl ho__29 (Nat.le_of_ble_eq_true rfl) (fs2 := [vi 0, .ref (a + 1), vi 0, vi 0, vi 0, vi 0, vi 0, vi 0, vi 0, vl 0, .ref (a + 2), .ref (a + 3), .ref (a + 4), .ref (a + 5), .ref (a + 6), .ref (a + 7), .ref (a + 8), .ref (a + 9), .ref (a + 10), vi 0, .ref (a + 11), .ref (a + 12), .ref (a + 13), .ref (a + 14), vi 0, vi 0, vi 0, vi 0, vi (-1), vi 0, vi 0, vi 0, .ref (a + 15), vi 0, vi 0, .null, .null, vi 0]) rfl rfl rfl rfl dX10_init_128 (fun h128 eh128 => ?_)
  have ho__30 : h128 a = some (ob 10 [vi 0, .ref (a + 1), vi 0, vi 0, vi 0, vi 0, vi 0, vi 0, vi 0, vl 0, .ref (a + 2), .ref (a + 3), .ref (a + 4), .ref (a + 5), .ref (a + 6), .ref (a + 7), .ref (a + 8), .ref (a + 9), .ref (a + 10), vi 0, .ref (a + 11), .ref (a + 12), .ref (a + 13), .ref (a + 14), vi 0, vi 0, vi 0, vi 0, vi (-1), vi 0, vi 0, vi 0, .ref (a + 15), vi 0, vi 0, .null, .null, vi 0]) := (congrFun eh128 _).trans hup_s
  have n8__30 : h128 (a + 1) = some (ai G 740 (fun _ => (0 : Int))) := (congrFun eh128 _).trans ((hup_n (by first | exact nea (by decide) | exact nea0 (by decide) | exact nea1 (by decide) | omega)).trans n8__29)
  have n16__28 : h128 (a + 2) = some (ai G 86 (fun _ => (0 : Int))) := (congrFun eh128 _).trans ((hup_n (by first | exact nea (by decide) | exact nea0 (by decide) | exact nea1 (by decide) | omega)).trans n16__27)
  have n24__26 : h128 (a + 3) = some (ai G 86 (fun _ => (0 : Int))) := (congrFun eh128 _).trans ((hup_n (by first | exact nea (by decide) | exact nea0 (by decide) | exact nea1 (by decide) | omega)).trans n24__25)
  have n33__24 : h128 (a + 4) = some (ai G 172 (fun _ => (0 : Int))) := (congrFun eh128 _).trans ((hup_n (by first | exact nea (by decide) | exact nea0 (by decide) | exact nea1 (by decide) | omega)).trans n33__23)
  have n42__22 : h128 (a + 5) = some (ai G 688 (fun _ => (0 : Int))) := (congrFun eh128 _).trans ((hup_n (by first | exact nea (by decide) | exact nea0 (by decide) | exact nea1 (by decide) | omega)).trans n42__21)
  have n50__20 : h128 (a + 6) = some (ai G 86 (fun _ => (0 : Int))) := (congrFun eh128 _).trans ((hup_n (by first | exact nea (by decide) | exact nea0 (by decide) | exact nea1 (by decide) | omega)).trans n50__19)
  have n58__18 : h128 (a + 7) = some (ai G 86 (fun _ => (0 : Int))) := (congrFun eh128 _).trans ((hup_n (by first | exact nea (by decide) | exact nea0 (by decide) | exact nea1 (by decide) | omega)).trans n58__17)
  have n66__16 : h128 (a + 8) = some (ai G 86 (fun _ => (0 : Int))) := (congrFun eh128 _).trans ((hup_n (by first | exact nea (by decide) | exact nea0 (by decide) | exact nea1 (by decide) | omega)).trans n66__15)
  have n74__14 : h128 (a + 9) = some (al G 8 (fun _ => (0 : Int))) := (congrFun eh128 _).trans ((hup_n (by first | exact nea (by decide) | exact nea0 (by decide) | exact nea1 (by decide) | omega)).trans n74__13)
  have n81__12 : h128 (a + 10) = some (az G 2 (fun _ => (0 : Int))) := (congrFun eh128 _).trans ((hup_n (by first | exact nea (by decide) | exact nea0 (by decide) | exact nea1 (by decide) | omega)).trans n81__11)
  have n89__10 : h128 (a + 11) = some (ai G 64 (fun _ => (0 : Int))) := (congrFun eh128 _).trans ((hup_n (by first | exact nea (by decide) | exact nea0 (by decide) | exact nea1 (by decide) | omega)).trans n89__9)
  have n97__8 : h128 (a + 12) = some (ai G 72 (fun _ => (0 : Int))) := (congrFun eh128 _).trans ((hup_n (by first | exact nea (by decide) | exact nea0 (by decide) | exact nea1 (by decide) | omega)).trans n97__7)
  have n105__6 : h128 (a + 13) = some (ai G 8 (fun _ => (0 : Int))) := (congrFun eh128 _).trans ((hup_n (by first | exact nea (by decide) | exact nea0 (by decide) | exact nea1 (by decide) | omega)).trans n105__5)
  have n113__4 : h128 (a + 14) = some (ai G 8 (fun _ => (0 : Int))) := (congrFun eh128 _).trans ((hup_n (by first | exact nea (by decide) | exact nea0 (by decide) | exact nea1 (by decide) | omega)).trans n113__3)
  have n126__1 : h128 (a + 15) = some (ai G 8 (fun _ => (0 : Int))) := (congrFun eh128 _).trans ((hup_n (by first | exact nea (by decide) | exact nea0 (by decide) | exact nea1 (by decide) | omega)).trans n126_)
  have fr__30 : ∀ q : Nat, q < a → h128 q = h q := fun q hq => (congrFun eh128 q).trans ((hup_n (by omega)).trans (fr__29 q hq))
  clear ho__29 n8__29 n16__27 n24__25 n33__23 n42__21 n50__19 n58__17 n66__15 n74__13 n81__11 n89__9 n97__7 n105__5 n113__3 n126_ fr__29 eh128
  refine g_aload_n k rfl dX10_init_131 ?_
  refine g_bipush k rfl dX10_init_132 ?_
  refine g_newi k (n := 8) (by decide) (by decide) ac_int (by omega) (by omega) dX10_init_134 (fun h134 eh134 => ?_)
  have ho__31 : h134 a = some (ob 10 [vi 0, .ref (a + 1), vi 0, vi 0, vi 0, vi 0, vi 0, vi 0, vi 0, vl 0, .ref (a + 2), .ref (a + 3), .ref (a + 4), .ref (a + 5), .ref (a + 6), .ref (a + 7), .ref (a + 8), .ref (a + 9), .ref (a + 10), vi 0, .ref (a + 11), .ref (a + 12), .ref (a + 13), .ref (a + 14), vi 0, vi 0, vi 0, vi 0, vi (-1), vi 0, vi 0, vi 0, .ref (a + 15), vi 0, vi 0, .null, .null, vi 0]) := (congrFun eh134 _).trans ((hup_n (by first | exact nea (by decide) | exact nea0 (by decide) | exact nea1 (by decide) | omega)).trans ho__30)
  have n8__31 : h134 (a + 1) = some (ai G 740 (fun _ => (0 : Int))) := (congrFun eh134 _).trans ((hup_n (by first | exact nea (by decide) | exact nea0 (by decide) | exact nea1 (by decide) | omega)).trans n8__30)
  have n16__29 : h134 (a + 2) = some (ai G 86 (fun _ => (0 : Int))) := (congrFun eh134 _).trans ((hup_n (by first | exact nea (by decide) | exact nea0 (by decide) | exact nea1 (by decide) | omega)).trans n16__28)
  have n24__27 : h134 (a + 3) = some (ai G 86 (fun _ => (0 : Int))) := (congrFun eh134 _).trans ((hup_n (by first | exact nea (by decide) | exact nea0 (by decide) | exact nea1 (by decide) | omega)).trans n24__26)
  have n33__25 : h134 (a + 4) = some (ai G 172 (fun _ => (0 : Int))) := (congrFun eh134 _).trans ((hup_n (by first | exact nea (by decide) | exact nea0 (by decide) | exact nea1 (by decide) | omega)).trans n33__24)
  have n42__23 : h134 (a + 5) = some (ai G 688 (fun _ => (0 : Int))) := (congrFun eh134 _).trans ((hup_n (by first | exact nea (by decide) | exact nea0 (by decide) | exact nea1 (by decide) | omega)).trans n42__22)
  have n50__21 : h134 (a + 6) = some (ai G 86 (fun _ => (0 : Int))) := (congrFun eh134 _).trans ((hup_n (by first | exact nea (by decide) | exact nea0 (by decide) | exact nea1 (by decide) | omega)).trans n50__20)
  have n58__19 : h134 (a + 7) = some (ai G 86 (fun _ => (0 : Int))) := (congrFun eh134 _).trans ((hup_n (by first | exact nea (by decide) | exact nea0 (by decide) | exact nea1 (by decide) | omega)).trans n58__18)
  have n66__17 : h134 (a + 8) = some (ai G 86 (fun _ => (0 : Int))) := (congrFun eh134 _).trans ((hup_n (by first | exact nea (by decide) | exact nea0 (by decide) | exact nea1 (by decide) | omega)).trans n66__16)
  have n74__15 : h134 (a + 9) = some (al G 8 (fun _ => (0 : Int))) := (congrFun eh134 _).trans ((hup_n (by first | exact nea (by decide) | exact nea0 (by decide) | exact nea1 (by decide) | omega)).trans n74__14)
  have n81__13 : h134 (a + 10) = some (az G 2 (fun _ => (0 : Int))) := (congrFun eh134 _).trans ((hup_n (by first | exact nea (by decide) | exact nea0 (by decide) | exact nea1 (by decide) | omega)).trans n81__12)
  have n89__11 : h134 (a + 11) = some (ai G 64 (fun _ => (0 : Int))) := (congrFun eh134 _).trans ((hup_n (by first | exact nea (by decide) | exact nea0 (by decide) | exact nea1 (by decide) | omega)).trans n89__10)
  have n97__9 : h134 (a + 12) = some (ai G 72 (fun _ => (0 : Int))) := (congrFun eh134 _).trans ((hup_n (by first | exact nea (by decide) | exact nea0 (by decide) | exact nea1 (by decide) | omega)).trans n97__8)
  have n105__7 : h134 (a + 13) = some (ai G 8 (fun _ => (0 : Int))) := (congrFun eh134 _).trans ((hup_n (by first | exact nea (by decide) | exact nea0 (by decide) | exact nea1 (by decide) | omega)).trans n105__6)
  have n113__5 : h134 (a + 14) = some (ai G 8 (fun _ => (0 : Int))) := (congrFun eh134 _).trans ((hup_n (by first | exact nea (by decide) | exact nea0 (by decide) | exact nea1 (by decide) | omega)).trans n113__4)
  have n126__2 : h134 (a + 15) = some (ai G 8 (fun _ => (0 : Int))) := (congrFun eh134 _).trans ((hup_n (by first | exact nea (by decide) | exact nea0 (by decide) | exact nea1 (by decide) | omega)).trans n126__1)
  have fr__31 : ∀ q : Nat, q < a → h134 q = h q := fun q hq => (congrFun eh134 q).trans ((hup_n (by omega)).trans (fr__30 q hq))
  have n134_ : h134 (a + 16) = some (ai G 8 (fun _ => (0 : Int))) := (congrFun eh134 _).trans hup_s
  clear ho__30 n8__30 n16__28 n24__26 n33__24 n42__22 n50__20 n58__18 n66__16 n74__14 n81__12 n89__10 n97__8 n105__6 n113__4 n126__1 fr__30 eh134
  refine g_nx (c2 := 16) (s2 := 2208) (n2 := a + 17) (by omega) (by omega) (by omega) ?_
  refine g_putF k 10 35 (C := RX10) (T := TX10) (N := 38) fl_X10_121 rfl wi_X10 tyX10 tyX10_ok nmX10 (by decide) rfl rfl rfl rfl ho__31 (Nat.le_of_ble_eq_true rfl) (fs2 := [vi 0, .ref (a + 1), vi 0, vi 0, vi 0, vi 0, vi 0, vi 0, vi 0, vl 0, .ref (a + 2), .ref (a + 3), .ref (a + 4), .ref (a + 5), .ref (a + 6), .ref (a + 7), .ref (a + 8), .ref (a + 9), .ref (a + 10), vi 0, .ref (a + 11), .ref (a + 12), .ref (a + 13), .ref (a + 14), vi 0, vi 0, vi 0, vi 0, vi (-1), vi 0, vi 0, vi 0, .ref (a + 15), vi 0, vi 0, .ref (a + 16), .null, vi 0]) rfl rfl rfl rfl dX10_init_136 (fun h136 eh136 => ?_)
  have ho__32 : h136 a = some (ob 10 [vi 0, .ref (a + 1), vi 0, vi 0, vi 0, vi 0, vi 0, vi 0, vi 0, vl 0, .ref (a + 2), .ref (a + 3), .ref (a + 4), .ref (a + 5), .ref (a + 6), .ref (a + 7), .ref (a + 8), .ref (a + 9), .ref (a + 10), vi 0, .ref (a + 11), .ref (a + 12), .ref (a + 13), .ref (a + 14), vi 0, vi 0, vi 0, vi 0, vi (-1), vi 0, vi 0, vi 0, .ref (a + 15), vi 0, vi 0, .ref (a + 16), .null, vi 0]) := (congrFun eh136 _).trans hup_s
  have n8__32 : h136 (a + 1) = some (ai G 740 (fun _ => (0 : Int))) := (congrFun eh136 _).trans ((hup_n (by first | exact nea (by decide) | exact nea0 (by decide) | exact nea1 (by decide) | omega)).trans n8__31)
  have n16__30 : h136 (a + 2) = some (ai G 86 (fun _ => (0 : Int))) := (congrFun eh136 _).trans ((hup_n (by first | exact nea (by decide) | exact nea0 (by decide) | exact nea1 (by decide) | omega)).trans n16__29)
  have n24__28 : h136 (a + 3) = some (ai G 86 (fun _ => (0 : Int))) := (congrFun eh136 _).trans ((hup_n (by first | exact nea (by decide) | exact nea0 (by decide) | exact nea1 (by decide) | omega)).trans n24__27)
  have n33__26 : h136 (a + 4) = some (ai G 172 (fun _ => (0 : Int))) := (congrFun eh136 _).trans ((hup_n (by first | exact nea (by decide) | exact nea0 (by decide) | exact nea1 (by decide) | omega)).trans n33__25)
  have n42__24 : h136 (a + 5) = some (ai G 688 (fun _ => (0 : Int))) := (congrFun eh136 _).trans ((hup_n (by first | exact nea (by decide) | exact nea0 (by decide) | exact nea1 (by decide) | omega)).trans n42__23)
  have n50__22 : h136 (a + 6) = some (ai G 86 (fun _ => (0 : Int))) := (congrFun eh136 _).trans ((hup_n (by first | exact nea (by decide) | exact nea0 (by decide) | exact nea1 (by decide) | omega)).trans n50__21)
  have n58__20 : h136 (a + 7) = some (ai G 86 (fun _ => (0 : Int))) := (congrFun eh136 _).trans ((hup_n (by first | exact nea (by decide) | exact nea0 (by decide) | exact nea1 (by decide) | omega)).trans n58__19)
  have n66__18 : h136 (a + 8) = some (ai G 86 (fun _ => (0 : Int))) := (congrFun eh136 _).trans ((hup_n (by first | exact nea (by decide) | exact nea0 (by decide) | exact nea1 (by decide) | omega)).trans n66__17)
  have n74__16 : h136 (a + 9) = some (al G 8 (fun _ => (0 : Int))) := (congrFun eh136 _).trans ((hup_n (by first | exact nea (by decide) | exact nea0 (by decide) | exact nea1 (by decide) | omega)).trans n74__15)
  have n81__14 : h136 (a + 10) = some (az G 2 (fun _ => (0 : Int))) := (congrFun eh136 _).trans ((hup_n (by first | exact nea (by decide) | exact nea0 (by decide) | exact nea1 (by decide) | omega)).trans n81__13)
  have n89__12 : h136 (a + 11) = some (ai G 64 (fun _ => (0 : Int))) := (congrFun eh136 _).trans ((hup_n (by first | exact nea (by decide) | exact nea0 (by decide) | exact nea1 (by decide) | omega)).trans n89__11)
  have n97__10 : h136 (a + 12) = some (ai G 72 (fun _ => (0 : Int))) := (congrFun eh136 _).trans ((hup_n (by first | exact nea (by decide) | exact nea0 (by decide) | exact nea1 (by decide) | omega)).trans n97__9)
  have n105__8 : h136 (a + 13) = some (ai G 8 (fun _ => (0 : Int))) := (congrFun eh136 _).trans ((hup_n (by first | exact nea (by decide) | exact nea0 (by decide) | exact nea1 (by decide) | omega)).trans n105__7)
  have n113__6 : h136 (a + 14) = some (ai G 8 (fun _ => (0 : Int))) := (congrFun eh136 _).trans ((hup_n (by first | exact nea (by decide) | exact nea0 (by decide) | exact nea1 (by decide) | omega)).trans n113__5)
  have n126__3 : h136 (a + 15) = some (ai G 8 (fun _ => (0 : Int))) := (congrFun eh136 _).trans ((hup_n (by first | exact nea (by decide) | exact nea0 (by decide) | exact nea1 (by decide) | omega)).trans n126__2)
  have n134__1 : h136 (a + 16) = some (ai G 8 (fun _ => (0 : Int))) := (congrFun eh136 _).trans ((hup_n (by first | exact nea (by decide) | exact nea0 (by decide) | exact nea1 (by decide) | omega)).trans n134_)
  have fr__32 : ∀ q : Nat, q < a → h136 q = h q := fun q hq => (congrFun eh136 q).trans ((hup_n (by omega)).trans (fr__31 q hq))
  clear ho__31 n8__31 n16__29 n24__27 n33__25 n42__23 n50__21 n58__19 n66__17 n74__15 n81__13 n89__11 n97__9 n105__7 n113__5 n126__2 n134_ fr__31 eh136
  refine g_aload_n k rfl dX10_init_139 ?_
  refine g_bipush k rfl dX10_init_140 ?_
  refine g_newi k (n := 8) (by decide) (by decide) ac_int (by omega) (by omega) dX10_init_142 (fun h142 eh142 => ?_)
  have ho__33 : h142 a = some (ob 10 [vi 0, .ref (a + 1), vi 0, vi 0, vi 0, vi 0, vi 0, vi 0, vi 0, vl 0, .ref (a + 2), .ref (a + 3), .ref (a + 4), .ref (a + 5), .ref (a + 6), .ref (a + 7), .ref (a + 8), .ref (a + 9), .ref (a + 10), vi 0, .ref (a + 11), .ref (a + 12), .ref (a + 13), .ref (a + 14), vi 0, vi 0, vi 0, vi 0, vi (-1), vi 0, vi 0, vi 0, .ref (a + 15), vi 0, vi 0, .ref (a + 16), .null, vi 0]) := (congrFun eh142 _).trans ((hup_n (by first | exact nea (by decide) | exact nea0 (by decide) | exact nea1 (by decide) | omega)).trans ho__32)
  have n8__33 : h142 (a + 1) = some (ai G 740 (fun _ => (0 : Int))) := (congrFun eh142 _).trans ((hup_n (by first | exact nea (by decide) | exact nea0 (by decide) | exact nea1 (by decide) | omega)).trans n8__32)
  have n16__31 : h142 (a + 2) = some (ai G 86 (fun _ => (0 : Int))) := (congrFun eh142 _).trans ((hup_n (by first | exact nea (by decide) | exact nea0 (by decide) | exact nea1 (by decide) | omega)).trans n16__30)
  have n24__29 : h142 (a + 3) = some (ai G 86 (fun _ => (0 : Int))) := (congrFun eh142 _).trans ((hup_n (by first | exact nea (by decide) | exact nea0 (by decide) | exact nea1 (by decide) | omega)).trans n24__28)
  have n33__27 : h142 (a + 4) = some (ai G 172 (fun _ => (0 : Int))) := (congrFun eh142 _).trans ((hup_n (by first | exact nea (by decide) | exact nea0 (by decide) | exact nea1 (by decide) | omega)).trans n33__26)
  have n42__25 : h142 (a + 5) = some (ai G 688 (fun _ => (0 : Int))) := (congrFun eh142 _).trans ((hup_n (by first | exact nea (by decide) | exact nea0 (by decide) | exact nea1 (by decide) | omega)).trans n42__24)
  have n50__23 : h142 (a + 6) = some (ai G 86 (fun _ => (0 : Int))) := (congrFun eh142 _).trans ((hup_n (by first | exact nea (by decide) | exact nea0 (by decide) | exact nea1 (by decide) | omega)).trans n50__22)
  have n58__21 : h142 (a + 7) = some (ai G 86 (fun _ => (0 : Int))) := (congrFun eh142 _).trans ((hup_n (by first | exact nea (by decide) | exact nea0 (by decide) | exact nea1 (by decide) | omega)).trans n58__20)
  have n66__19 : h142 (a + 8) = some (ai G 86 (fun _ => (0 : Int))) := (congrFun eh142 _).trans ((hup_n (by first | exact nea (by decide) | exact nea0 (by decide) | exact nea1 (by decide) | omega)).trans n66__18)
  have n74__17 : h142 (a + 9) = some (al G 8 (fun _ => (0 : Int))) := (congrFun eh142 _).trans ((hup_n (by first | exact nea (by decide) | exact nea0 (by decide) | exact nea1 (by decide) | omega)).trans n74__16)
  have n81__15 : h142 (a + 10) = some (az G 2 (fun _ => (0 : Int))) := (congrFun eh142 _).trans ((hup_n (by first | exact nea (by decide) | exact nea0 (by decide) | exact nea1 (by decide) | omega)).trans n81__14)
  have n89__13 : h142 (a + 11) = some (ai G 64 (fun _ => (0 : Int))) := (congrFun eh142 _).trans ((hup_n (by first | exact nea (by decide) | exact nea0 (by decide) | exact nea1 (by decide) | omega)).trans n89__12)
  have n97__11 : h142 (a + 12) = some (ai G 72 (fun _ => (0 : Int))) := (congrFun eh142 _).trans ((hup_n (by first | exact nea (by decide) | exact nea0 (by decide) | exact nea1 (by decide) | omega)).trans n97__10)
  have n105__9 : h142 (a + 13) = some (ai G 8 (fun _ => (0 : Int))) := (congrFun eh142 _).trans ((hup_n (by first | exact nea (by decide) | exact nea0 (by decide) | exact nea1 (by decide) | omega)).trans n105__8)
  have n113__7 : h142 (a + 14) = some (ai G 8 (fun _ => (0 : Int))) := (congrFun eh142 _).trans ((hup_n (by first | exact nea (by decide) | exact nea0 (by decide) | exact nea1 (by decide) | omega)).trans n113__6)
  have n126__4 : h142 (a + 15) = some (ai G 8 (fun _ => (0 : Int))) := (congrFun eh142 _).trans ((hup_n (by first | exact nea (by decide) | exact nea0 (by decide) | exact nea1 (by decide) | omega)).trans n126__3)
  have n134__2 : h142 (a + 16) = some (ai G 8 (fun _ => (0 : Int))) := (congrFun eh142 _).trans ((hup_n (by first | exact nea (by decide) | exact nea0 (by decide) | exact nea1 (by decide) | omega)).trans n134__1)
  have fr__33 : ∀ q : Nat, q < a → h142 q = h q := fun q hq => (congrFun eh142 q).trans ((hup_n (by omega)).trans (fr__32 q hq))
  have n142_ : h142 (a + 17) = some (ai G 8 (fun _ => (0 : Int))) := (congrFun eh142 _).trans hup_s
  clear ho__32 n8__32 n16__30 n24__28 n33__26 n42__24 n50__22 n58__20 n66__18 n74__16 n81__14 n89__12 n97__10 n105__8 n113__6 n126__3 n134__1 fr__32 eh142
  refine g_nx (c2 := 17) (s2 := 2216) (n2 := a + 18) (by omega) (by omega) (by omega) ?_
  refine g_putF k 10 36 (C := RX10) (T := TX10) (N := 38) fl_X10_124 rfl wi_X10 tyX10 tyX10_ok nmX10 (by decide) rfl rfl rfl rfl ho__33 (Nat.le_of_ble_eq_true rfl) (fs2 := [vi 0, .ref (a + 1), vi 0, vi 0, vi 0, vi 0, vi 0, vi 0, vi 0, vl 0, .ref (a + 2), .ref (a + 3), .ref (a + 4), .ref (a + 5), .ref (a + 6), .ref (a + 7), .ref (a + 8), .ref (a + 9), .ref (a + 10), vi 0, .ref (a + 11), .ref (a + 12), .ref (a + 13), .ref (a + 14), vi 0, vi 0, vi 0, vi 0, vi (-1), vi 0, vi 0, vi 0, .ref (a + 15), vi 0, vi 0, .ref (a + 16), .ref (a + 17), vi 0]) rfl rfl rfl rfl dX10_init_144 (fun h144 eh144 => ?_)
  have ho__34 : h144 a = some (ob 10 [vi 0, .ref (a + 1), vi 0, vi 0, vi 0, vi 0, vi 0, vi 0, vi 0, vl 0, .ref (a + 2), .ref (a + 3), .ref (a + 4), .ref (a + 5), .ref (a + 6), .ref (a + 7), .ref (a + 8), .ref (a + 9), .ref (a + 10), vi 0, .ref (a + 11), .ref (a + 12), .ref (a + 13), .ref (a + 14), vi 0, vi 0, vi 0, vi 0, vi (-1), vi 0, vi 0, vi 0, .ref (a + 15), vi 0, vi 0, .ref (a + 16), .ref (a + 17), vi 0]) := (congrFun eh144 _).trans hup_s
  have n8__34 : h144 (a + 1) = some (ai G 740 (fun _ => (0 : Int))) := (congrFun eh144 _).trans ((hup_n (by first | exact nea (by decide) | exact nea0 (by decide) | exact nea1 (by decide) | omega)).trans n8__33)
  have n16__32 : h144 (a + 2) = some (ai G 86 (fun _ => (0 : Int))) := (congrFun eh144 _).trans ((hup_n (by first | exact nea (by decide) | exact nea0 (by decide) | exact nea1 (by decide) | omega)).trans n16__31)
  have n24__30 : h144 (a + 3) = some (ai G 86 (fun _ => (0 : Int))) := (congrFun eh144 _).trans ((hup_n (by first | exact nea (by decide) | exact nea0 (by decide) | exact nea1 (by decide) | omega)).trans n24__29)
  have n33__28 : h144 (a + 4) = some (ai G 172 (fun _ => (0 : Int))) := (congrFun eh144 _).trans ((hup_n (by first | exact nea (by decide) | exact nea0 (by decide) | exact nea1 (by decide) | omega)).trans n33__27)
  have n42__26 : h144 (a + 5) = some (ai G 688 (fun _ => (0 : Int))) := (congrFun eh144 _).trans ((hup_n (by first | exact nea (by decide) | exact nea0 (by decide) | exact nea1 (by decide) | omega)).trans n42__25)
  have n50__24 : h144 (a + 6) = some (ai G 86 (fun _ => (0 : Int))) := (congrFun eh144 _).trans ((hup_n (by first | exact nea (by decide) | exact nea0 (by decide) | exact nea1 (by decide) | omega)).trans n50__23)
  have n58__22 : h144 (a + 7) = some (ai G 86 (fun _ => (0 : Int))) := (congrFun eh144 _).trans ((hup_n (by first | exact nea (by decide) | exact nea0 (by decide) | exact nea1 (by decide) | omega)).trans n58__21)
  have n66__20 : h144 (a + 8) = some (ai G 86 (fun _ => (0 : Int))) := (congrFun eh144 _).trans ((hup_n (by first | exact nea (by decide) | exact nea0 (by decide) | exact nea1 (by decide) | omega)).trans n66__19)
  have n74__18 : h144 (a + 9) = some (al G 8 (fun _ => (0 : Int))) := (congrFun eh144 _).trans ((hup_n (by first | exact nea (by decide) | exact nea0 (by decide) | exact nea1 (by decide) | omega)).trans n74__17)
  have n81__16 : h144 (a + 10) = some (az G 2 (fun _ => (0 : Int))) := (congrFun eh144 _).trans ((hup_n (by first | exact nea (by decide) | exact nea0 (by decide) | exact nea1 (by decide) | omega)).trans n81__15)
  have n89__14 : h144 (a + 11) = some (ai G 64 (fun _ => (0 : Int))) := (congrFun eh144 _).trans ((hup_n (by first | exact nea (by decide) | exact nea0 (by decide) | exact nea1 (by decide) | omega)).trans n89__13)
  have n97__12 : h144 (a + 12) = some (ai G 72 (fun _ => (0 : Int))) := (congrFun eh144 _).trans ((hup_n (by first | exact nea (by decide) | exact nea0 (by decide) | exact nea1 (by decide) | omega)).trans n97__11)
  have n105__10 : h144 (a + 13) = some (ai G 8 (fun _ => (0 : Int))) := (congrFun eh144 _).trans ((hup_n (by first | exact nea (by decide) | exact nea0 (by decide) | exact nea1 (by decide) | omega)).trans n105__9)
  have n113__8 : h144 (a + 14) = some (ai G 8 (fun _ => (0 : Int))) := (congrFun eh144 _).trans ((hup_n (by first | exact nea (by decide) | exact nea0 (by decide) | exact nea1 (by decide) | omega)).trans n113__7)
  have n126__5 : h144 (a + 15) = some (ai G 8 (fun _ => (0 : Int))) := (congrFun eh144 _).trans ((hup_n (by first | exact nea (by decide) | exact nea0 (by decide) | exact nea1 (by decide) | omega)).trans n126__4)
  have n134__3 : h144 (a + 16) = some (ai G 8 (fun _ => (0 : Int))) := (congrFun eh144 _).trans ((hup_n (by first | exact nea (by decide) | exact nea0 (by decide) | exact nea1 (by decide) | omega)).trans n134__2)
  have n142__1 : h144 (a + 17) = some (ai G 8 (fun _ => (0 : Int))) := (congrFun eh144 _).trans ((hup_n (by first | exact nea (by decide) | exact nea0 (by decide) | exact nea1 (by decide) | omega)).trans n142_)
  have fr__34 : ∀ q : Nat, q < a → h144 q = h q := fun q hq => (congrFun eh144 q).trans ((hup_n (by omega)).trans (fr__33 q hq))
  clear ho__33 n8__33 n16__31 n24__29 n33__27 n42__25 n50__23 n58__21 n66__19 n74__17 n81__15 n89__13 n97__11 n105__9 n113__7 n126__4 n134__2 n142_ fr__33 eh144
  rw [← hQQ]
  refine g_retv k rfl dX10_init_147 ?_
  exact ⟨⟨0, fu (fun _ => 0) 14 (-1), ⟨ho__34, n8__34, ⟨_, n16__32, ⟨rfl, rfl, fun i hi => absurd hi (Nat.not_lt_zero i)⟩⟩, ⟨_, n24__30⟩, ⟨_, n33__28, fun k hk i ψ e => nomatch e⟩, ⟨_, n42__26, fun i hi => absurd hi (Nat.not_lt_zero i)⟩, ⟨_, n50__24⟩, ⟨_, n58__22⟩, ⟨_, n66__20⟩, ⟨_, n74__18⟩, ⟨_, n81__16, fun k hk => rfl⟩, ⟨_, n89__14⟩, ⟨_, n97__12⟩, ⟨_, n105__10⟩, ⟨_, n113__8, fun i hi => absurd hi (by show ¬ ((i : Int) + 1 < 0); omega)⟩, ⟨_, n126__5⟩, ⟨_, n134__3⟩, ⟨_, n142__1⟩⟩, ⟨rfl, rfl, rfl, rfl, rfl, rfl, rfl⟩, rfl⟩, fr__34⟩

