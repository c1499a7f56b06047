/-! the law's start -/
set_option maxHeartbeats 2000000 in
set_option maxRecDepth 100000 in
theorem law_start {G : Gx} {X : Cx} {b L x sa : Nat} {xs : Nat → Int32} {Q : State → Prop} (k : Ok G X RL "law" cL_law 7 (some .boolean) 100 601024 7293034) (hX : SX G X b L xs) (hL : L ≤ 3072) (hT : TWX G X sa) (hl0 : G.2.2.2.stackTraces = false)
    (hend : ∀ (h : Hp) (nx cz sz : Nat) (lv : List (Nat × Value)), cz ≤ 601024 → sz ≤ 7293034 → Go G X 7 Q cz sz nx 1294 lv [vi 1] h) (h : Hp) : Go G X 7 Q 0 0 x 0 [(0, .ref b)] [] h := by
  refine g_new k 9 (C := RX9) (T := TX9) (N := 15) (fs := [.null, .null, .null, .null, .null, .null, .null, .null, .null, .null, .null, .null, .null, .null, vi 0]) kl_L_8 ins_X9 ini_X9 rfl wi_X9 tyX9 tyX9_ok dv_X9 (by omega) (by omega) dL_law_0 (fun h1 e1 => ?_)
  have o1 : h1 x = some (ob 9 [.null, .null, .null, .null, .null, .null, .null, .null, .null, .null, .null, .null, .null, .null, vi 0]) := (congrFun e1 _).trans hup_s
  refine g_dup k rfl dL_law_3 ?_
  refine g_cI k (b := x) (As := []) v_X9_init ml_L_15 (n_X9 o1) (by omega) (by omega) rfl (Nat.le_of_ble_eq_true rfl) rfl dL_law_4 (fun h2 p2 => ?_)
  obtain ⟨F2, f2⟩ := p2
  refine g_nx (c2 := 141) (s2 := 4456) (n2 := x + 141) (by omega) (by omega) (by omega) ?_
  refine g_astore_n k (by decide) rfl rfl dL_law_7 ?_
  refine g_new k 10 (C := RX10) (T := TX10) (N := 38) (fs := [vi 0, .null, vi 0, vi 0, vi 0, vi 0, vi 0, vi 0, vi 0, vl 0, .null, .null, .null, .null, .null, .null, .null, .null, .null, vi 0, .null, .null, .null, .null, vi 0, vi 0, vi 0, vi 0, vi 0, vi 0, vi 0, vi 0, .null, vi 0, vi 0, .null, .null, vi 0]) kl_L_16 ins_X10 ini_X10 rfl wi_X10 tyX10 tyX10_ok dv_X10 (by omega) (by omega) dL_law_8 (fun h3 e3 => ?_)
  have o3 : h3 (x + 141) = some (ob 10 [vi 0, .null, vi 0, vi 0, vi 0, vi 0, vi 0, vi 0, vi 0, vl 0, .null, .null, .null, .null, .null, .null, .null, .null, .null, vi 0, .null, .null, .null, .null, vi 0, vi 0, vi 0, vi 0, vi 0, vi 0, vi 0, vi 0, .null, vi 0, vi 0, .null, .null, vi 0]) := (congrFun e3 _).trans hup_s
  refine g_dup k rfl dL_law_11 ?_
  refine g_cI k (b := x + 141) (As := []) v_X10_init ml_L_18 (n_X10 o3) (by omega) (by omega) rfl (Nat.le_of_ble_eq_true rfl) rfl dL_law_12 (fun h4 p4 => ?_)
  obtain ⟨M4, f4⟩ := p4
  refine g_nx (c2 := 159) (s2 := 6710) (n2 := x + 159) (by omega) (by omega) (by omega) ?_
  refine g_astore_n k (by decide) rfl rfl dL_law_15 ?_
  refine g_iconst k dL_law_16 ?_
  refine g_newl k (n := 1) (by decide) (by decide) ac_long (by omega) (by omega) dL_law_17 (fun h5 e5 => ?_)
  have l5 : h5 (x + 159) = some (al G 1 (fun _ => (0 : Int))) := (congrFun e5 _).trans hup_s
  have F5 : SF G h5 x 0 [] [] (fun _ => none) V0 0 (fun _ => 0) 0 := F2.keep (fun q g1 g2 => (congrFun e5 q).trans ((hup_n (by omega)).trans ((f4 q (by omega)).trans ((congrFun e3 q).trans (hup_n (by omega))))))
  have M5 : MS G h5 (x + 141) 0 [] [] (fun _ => none) V0 0 (fun _ => 0) 0 := M4.keep (fun q g1 g2 => (congrFun e5 q).trans (hup_n (by omega)))
  refine g_nx (c2 := 160) (s2 := 6711) (n2 := x + 160) (by omega) (by omega) (by omega) ?_
  refine g_astore_n k (by decide) rfl rfl dL_law_19 ?_
  refine g_iconst k dL_law_20 ?_
  refine g_istore k (by decide) rfl rfl dL_law_21 ?_
  refine g_less (lv2 := [(0, .ref b), (1, .ref x), (2, .ref (x + 141)), (3, .ref (x + 159)), (4, vi ((0 : Nat) : Int))]) ⟨rfl, rfl, rfl, rfl, rfl, trivial⟩ ?_
  exact law_loop k hX hL hT hl0 hend (L + 1) 0 (x + 160) 160 6711 _ h5 ⟨0, [], [], fun _ => none, V0, 0, fun _ => 0, 0, F5, M5, ⟨Nat.zero_le 8, Nat.zero_le 28, fun i hi => absurd hi (Nat.not_lt_zero i)⟩, mk_good (n := 0) (r := 0), ⟨Nat.zero_le 8, fun i hi => absurd hi (Nat.not_lt_zero i)⟩, fun i hi => absurd hi (Nat.not_lt_zero i), fun k i ψ hk e => (nomatch e), ⟨Int.le_refl 0, by decide⟩, Nat.zero_le _, fun j => ⟨Int.le_refl 0, show (0 : Int) ≤ 255 by decide⟩, Nat.zero_le _⟩ l5 (by omega) (by omega) (by omega) (by omega)
