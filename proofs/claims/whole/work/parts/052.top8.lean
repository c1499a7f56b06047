/-! tellWeighed, tellFirstOpen, finish, draw, drawForgotten, drawTold, drawn -/
theorem Sm_fgt {it : Nat} {φ : Fs} (h : Sm it φ) {k : Nat} (hk : k < φ.length) : Sm it (fgt φ k) := by
  have el : (fgt φ k).length = φ.length - 1 := List.length_eraseIdx_of_lt hk
  have ek : ∀ j, (fgt φ k).getD j (0, 0, 0) = (if j < k then φ.getD j (0, 0, 0) else φ.getD (j + 1) (0, 0, 0)) := fun j => ers_at
  refine ⟨h.1, by rw [el]; have := h.2.1; omega, fun i hi => ?_⟩
  rw [el] at hi
  have key : ∀ j, kd (fgt φ k) j = kd φ (if j < k then j else j + 1) ∧ fi (fgt φ k) j = fi φ (if j < k then j else j + 1) ∧ se (fgt φ k) j = se φ (if j < k then j else j + 1) := fun j => by
    unfold kd fi se
    rw [ek j]
    split <;> exact ⟨rfl, rfl, rfl⟩
  obtain ⟨k1, k2, k3⟩ := key i
  rw [k1, k2, k3]
  have hb := h.2.2 (if i < k then i else i + 1) (by split <;> omega)
  refine ⟨hb.1, hb.2.1, hb.2.2.1, hb.2.2.2.1, fun j hj => ?_⟩
  obtain ⟨-, j2, j3⟩ := key j
  rw [j2, j3]
  exact hb.2.2.2.2 (if j < k then j else j + 1) (by split <;> split <;> omega)
def fso (o a b : Nat) : Nat × Nat × Nat := if o % 2 = 1 then (0, a, b) else if o / 2 % 2 = 1 then (0, b, a) else (1, a, b)
theorem fso_b (o a b : Nat) : (fso o a b).1 ≤ 1 ∧ ((fso o a b).2 = (a, b) ∨ (fso o a b).2 = (b, a)) := by unfold fso; split; exact ⟨Nat.zero_le _, Or.inl rfl⟩; split; exact ⟨Nat.zero_le _, Or.inr rfl⟩; exact ⟨Nat.le_refl _, Or.inl rfl⟩
theorem bit8 : ∀ o, o < 8 → ((o &&& 1 : Nat) = o % 2) ∧ ((o &&& 2 : Nat) = o / 2 % 2 * 2) ∧ ((o &&& 4 : Nat) = o / 4 % 2 * 4) := by decide
set_option maxHeartbeats 600000 in
set_option maxRecDepth 100000 in
theorem c_X9_tellWeighed {G : Gx} {h : Hp} {nx x : Nat} {it : Nat} {φ : Fs} {ps : List (Nat × Fs)} {im : Nat → Option (Nat × Fs)} {V : RV} {n : Nat} {T : Nat → Int} {ft : Nat} (hS : SF G h x it φ ps im V n T ft) (hSm : Sm it φ) {M : Nat → Int} (hM : RA G h (x + 59) it M) {B : Int} (hB : Bd B M) (hB2 : 0 ≤ B ∧ B ≤ 100000) {k1 a b : Nat} (hk1 : k1 ≤ 1) (ha : a < it) (hb : b < it) (hl : φ.length < 28) : Con G yX9_tellWeighed cX9_tellWeighed 4 none 4 0 0 [.ref x, vi (k1 : Int), vi (a : Int), vi (b : Int)] h nx (PV fun h' => SF G h' x it (φ ++ [(k1, a, b)]) ps im V n T ft ∧ RA G h' (x + 59) it (jnF M it k1 a b) ∧ ∀ q : Nat, ((q < x + 1 ∨ x + 4 < q) ∧ (q < x + 59 ∨ x + 60 < q)) → h' q = h q) := by
  obtain ⟨⟨sd, hx⟩, cF, cM, cP, cI, cV, cK, cR, cO, cW, cS, cZ, cT, cD⟩ := id hS
  have cF : FA G h (x + 1) it φ := cF
  have cP : PA G h (x + 9) ps := cP
  have cV : GV G h (x + 53) V := cV
  have cT : TA G h (x + 133) n T := cT
  have hf := cF.ob
  have hp := cP.ob
  have hv := cV.ob
  have ht := cT.1
  have h8 := hSm.1
  have h28 := hSm.2.1
  have hr := hM.1
  obtain ⟨K3, F3, Z3, -, k3, f3, z3, hrr⟩ := id cF
  refine Con.of v_X9_tellWeighed.2.2.2.2.2.1 (Nat.le_of_ble_eq_true rfl) (lv := [(0, .ref x), (1, vi (k1 : Int)), (2, vi (a : Int)), (3, vi (b : Int))]) rfl (fun X k => ?_)
  generalize hQQ : QM G X nx 0 0 _ = QQ
  have fr0 : ∀ q : Nat, ((q < x + 1 ∨ x + 4 < q) ∧ (q < x + 59 ∨ x + 60 < q)) → h q = h q := fun _ _ => rfl
  refine g_aload_n k rfl dX9_tellWeighed_0 ?_
  refine g_get k 9 0 (C := RX9) (T := TX9) (N := 15) fl_X9_12 rfl wi_X9 (by decide) rfl hx rfl dX9_tellWeighed_1 ?_
  refine g_iload_n k rfl dX9_tellWeighed_4 ?_
  refine g_iload_n k rfl dX9_tellWeighed_5 ?_
  refine g_iload_n k rfl dX9_tellWeighed_6 ?_
  refine g_cVv k 0 (As := [vi (k1 : Int), vi (a : Int), vi (b : Int)]) v_X0_add rfl rfl hf ml_X9_172 (c_X0_add ⟨hf, k3, f3, z3⟩ hl (x := (k1 : Int)) (y := (a : Int)) (z := (b : Int))) (by omega) (by omega) rfl (Nat.le_of_ble_eq_true rfl) rfl dX9_tellWeighed_7 (fun h7 p7 => ?_)
  obtain ⟨⟨na, nk, nf, nz2⟩, nfr⟩ := p7
  have hx_ : h7 x = some (ob 9 [.ref (x + 1), .ref (x + 5), .ref (x + 9), .ref (x + 43), .ref (x + 52), .ref (x + 53), .ref (x + 56), .ref (x + 59), .ref (x + 61), .ref (x + 68), .ref (x + 130), .ref (x + 132), .ref (x + 133), .ref (x + 135), vi sd]) := (nfr _ (by omega)).trans hx
  have hf_ : h7 (x + 1) = some (ob 0 [vi (it : Int), vi ((φ.length + 1 : Nat) : Int), .ref (x + 1 + 1), .ref (x + 1 + 2), .ref (x + 1 + 3)]) := na
  have hr_ : h7 (x + 59) = some (ob 3 [vi (it : Int), .ref (x + 59 + 1)]) := (nfr _ (by omega)).trans hr
  have fr_ : ∀ q : Nat, ((q < x + 1 ∨ x + 4 < q) ∧ (q < x + 59 ∨ x + 60 < q)) → h7 q = h q := fun q hq => (nfr q (by omega)).trans (fr0 q hq)
  have hS1 := hS.sF (it' := it) (φ' := φ ++ [(k1, a, b)]) ⟨_, _, _, by rw [show (φ ++ [(k1, a, b)]).length = φ.length + 1 from List.length_append]; exact na, nk, nf, nz2, hrr.add⟩ (fun q g => nfr q (by omega))
  refine g_aload_n k rfl dX9_tellWeighed_10 ?_
  refine g_get k 9 7 (C := RX9) (T := TX9) (N := 15) fl_X9_47 rfl wi_X9 (by decide) rfl hx_ rfl dX9_tellWeighed_11 ?_
  refine g_iload_n k rfl dX9_tellWeighed_14 ?_
  refine g_iload_n k rfl dX9_tellWeighed_15 ?_
  refine g_iload_n k rfl dX9_tellWeighed_16 ?_
  refine g_cVv k 3 (As := [vi (k1 : Int), vi (a : Int), vi (b : Int)]) v_X3_join rfl rfl hr_ ml_X9_317 (c_X3_join (hM.keep (fun q g1 g2 => nfr q (by omega))) h8 hB hB2 (k1 := k1) (x := a) (y := b) hk1 (by omega) (by omega)) (by omega) (by omega) rfl (Nat.le_of_ble_eq_true rfl) rfl dX9_tellWeighed_17 (fun h17 p17 => ?_)
  obtain ⟨nM, nfr2⟩ := p17
  have hx__1 : h17 x = some (ob 9 [.ref (x + 1), .ref (x + 5), .ref (x + 9), .ref (x + 43), .ref (x + 52), .ref (x + 53), .ref (x + 56), .ref (x + 59), .ref (x + 61), .ref (x + 68), .ref (x + 130), .ref (x + 132), .ref (x + 133), .ref (x + 135), vi sd]) := (nfr2 _ (by omega)).trans hx_
  have hf__1 : h17 (x + 1) = some (ob 0 [vi (it : Int), vi ((φ.length + 1 : Nat) : Int), .ref (x + 1 + 1), .ref (x + 1 + 2), .ref (x + 1 + 3)]) := (nfr2 _ (by omega)).trans hf_
  have hr__1 : h17 (x + 59) = some (ob 3 [vi (it : Int), .ref (x + 59 + 1)]) := nM.1
  have fr__1 : ∀ q : Nat, ((q < x + 1 ∨ x + 4 < q) ∧ (q < x + 59 ∨ x + 60 < q)) → h17 q = h q := fun q hq => (nfr2 q (by omega)).trans (fr_ q hq)
  have hS2 := hS1.sR ⟨_, _, nM⟩ (fun q g => nfr2 q (by omega))
  rw [← hQQ]
  refine g_retv k rfl dX9_tellWeighed_20 ?_
  exact ⟨hS2, nM, fr__1⟩

set_option maxHeartbeats 600000 in
set_option maxRecDepth 100000 in
theorem c_X9_tellFirstOpen {G : Gx} {h : Hp} {nx x : Nat} {it : Nat} {φ : Fs} {ps : List (Nat × Fs)} {im : Nat → Option (Nat × Fs)} {V : RV} {n : Nat} {T : Nat → Int} {ft : Nat} (hS : SF G h x it φ ps im V n T ft) (hSm : Sm it φ) {M : Nat → Int} (hM : RA G h (x + 59) it M) {B : Int} (hB : Bd B M) (hB2 : 0 ≤ B ∧ B ≤ 100000) {a b : Nat} (ha : a < it) (hb : b < it) (hl : φ.length < 28) : Con G yX9_tellFirstOpen cX9_tellFirstOpen 4 none 5 0 0 [.ref x, vi (a : Int), vi (b : Int)] h nx (PV fun h' => SF G h' x it (φ ++ [fso (opt M a b) a b]) ps im V n T ft ∧ RA G h' (x + 59) it (jnF M it (fso (opt M a b) a b).1 (fso (opt M a b) a b).2.1 (fso (opt M a b) a b).2.2) ∧ ∀ q : Nat, ((q < x + 1 ∨ x + 4 < q) ∧ (q < x + 59 ∨ x + 60 < q)) → h' q = h q) := by
  obtain ⟨⟨sd, hx⟩, cF, cM, cP, cI, cV, cK, cR, cO, cW, cS, cZ, cT, cD⟩ := id hS
  have cF : FA G h (x + 1) it φ := cF
  have cP : PA G h (x + 9) ps := cP
  have cV : GV G h (x + 53) V := cV
  have cT : TA G h (x + 133) n T := cT
  have hf := cF.ob
  have hp := cP.ob
  have hv := cV.ob
  have ht := cT.1
  have h8 := hSm.1
  have h28 := hSm.2.1
  have hr := hM.1
  have ho7 := opt_le M a b
  obtain ⟨b1, b2, b4⟩ := bit8 (opt M a b) (by omega)
  refine Con.of v_X9_tellFirstOpen.2.2.2.2.2.1 (Nat.le_of_ble_eq_true rfl) (lv := [(0, .ref x), (1, vi (a : Int)), (2, vi (b : Int))]) rfl (fun X k => ?_)
  generalize hQQ : QM G X nx 0 0 _ = QQ
  have fr0 : ∀ q : Nat, ((q < x + 1 ∨ x + 4 < q) ∧ (q < x + 59 ∨ x + 60 < q)) → h q = h q := fun _ _ => rfl
  refine g_aload_n k rfl dX9_tellFirstOpen_0 ?_
  refine g_get k 9 7 (C := RX9) (T := TX9) (N := 15) fl_X9_47 rfl wi_X9 (by decide) rfl hx rfl dX9_tellFirstOpen_1 ?_
  refine g_iload_n k rfl dX9_tellFirstOpen_4 ?_
  refine g_iload_n k rfl dX9_tellFirstOpen_5 ?_
  refine g_cVi k 3 (As := [vi (a : Int), vi (b : Int)]) v_X3_options rfl rfl hr ml_X9_301 (c_X3_options hM hB (by omega) (x := a) (y := b) (by omega) (by omega)) (by omega) (by omega) rfl (Nat.le_of_ble_eq_true rfl) rfl dX9_tellFirstOpen_6 (fun r6 h6 p6 => ?_)
  obtain ⟨eh6, p6⟩ := p6
  have eh6 := eh6.symm; subst eh6
  subst p6
  refine g_istore_n k (lv2 := [(0, .ref x), (1, vi (a : Int)), (2, vi (b : Int)), (3, vi (opt M a b : Int))]) (by decide) rfl rfl dX9_tellFirstOpen_9 ?_
  refine g_iload_n k rfl dX9_tellFirstOpen_10 ?_
  refine g_iconst k dX9_tellFirstOpen_11 ?_
  refine g_iand k (a := opt M a b) (b := 1) (by omega) (by omega) dX9_tellFirstOpen_12 ?_
  refine g_if_eq k (tgt := 26) (by omega) dX9_tellFirstOpen_13 (by decide) (fun c13 => ?_) (fun c13 => ?_)
  · skip
    refine g_iload_n k rfl dX9_tellFirstOpen_26 ?_
    refine g_iconst k dX9_tellFirstOpen_27 ?_
    refine g_iand k (a := opt M a b) (b := 2) (by omega) (by omega) dX9_tellFirstOpen_28 ?_
    refine g_if_eq k (tgt := 42) (by omega) dX9_tellFirstOpen_29 (by decide) (fun c29 => ?_) (fun c29 => ?_)
    · skip
      refine g_aload_n k rfl dX9_tellFirstOpen_42 ?_
      refine g_iconst k dX9_tellFirstOpen_43 ?_
      refine g_iload_n k rfl dX9_tellFirstOpen_44 ?_
      refine g_iload_n k rfl dX9_tellFirstOpen_45 ?_
      refine g_cVv k 9 (As := [vi 1, vi (a : Int), vi (b : Int)]) v_X9_tellWeighed rfl rfl hx ml_X9_314 (c_X9_tellWeighed hS hSm hM hB hB2 (k1 := 1) (a := a) (b := b) (by omega) (by omega) (by omega) hl) (by omega) (by omega) rfl (Nat.le_of_ble_eq_true rfl) rfl dX9_tellFirstOpen_46 (fun h46 p46 => ?_)
      obtain ⟨hS1, nM, nfr⟩ := p46
      have hx_ : h46 x = some (ob 9 [.ref (x + 1), .ref (x + 5), .ref (x + 9), .ref (x + 43), .ref (x + 52), .ref (x + 53), .ref (x + 56), .ref (x + 59), .ref (x + 61), .ref (x + 68), .ref (x + 130), .ref (x + 132), .ref (x + 133), .ref (x + 135), vi sd]) := (nfr _ (by omega)).trans hx
      have fr_ : ∀ q : Nat, ((q < x + 1 ∨ x + 4 < q) ∧ (q < x + 59 ∨ x + 60 < q)) → h46 q = h q := fun q hq => (nfr q (by omega)).trans (fr0 q hq)
      rw [← hQQ]
      refine g_retv k rfl dX9_tellFirstOpen_49 ?_
      first | (have e : fso (opt M a b) a b = (0, a, b) := (by unfold fso; rw [if_pos (by omega)]); rw [e]; exact ⟨hS1, nM, (by assumption)⟩) | (have e : fso (opt M a b) a b = (0, b, a) := (by unfold fso; rw [if_neg (by omega), if_pos (by omega)]); rw [e]; exact ⟨hS1, nM, (by assumption)⟩) | (have e : fso (opt M a b) a b = (1, a, b) := (by unfold fso; rw [if_neg (by omega), if_neg (by omega)]); rw [e]; exact ⟨hS1, nM, (by assumption)⟩)
    · skip
      refine g_aload_n k rfl dX9_tellFirstOpen_32 ?_
      refine g_iconst k dX9_tellFirstOpen_33 ?_
      refine g_iload_n k rfl dX9_tellFirstOpen_34 ?_
      refine g_iload_n k rfl dX9_tellFirstOpen_35 ?_
      refine g_cVv k 9 (As := [vi 0, vi (b : Int), vi (a : Int)]) v_X9_tellWeighed rfl rfl hx ml_X9_314 (c_X9_tellWeighed hS hSm hM hB hB2 (k1 := 0) (a := b) (b := a) (by omega) (by omega) (by omega) hl) (by omega) (by omega) rfl (Nat.le_of_ble_eq_true rfl) rfl dX9_tellFirstOpen_36 (fun h36 p36 => ?_)
      obtain ⟨hS1, nM, nfr⟩ := p36
      have hx__1 : h36 x = some (ob 9 [.ref (x + 1), .ref (x + 5), .ref (x + 9), .ref (x + 43), .ref (x + 52), .ref (x + 53), .ref (x + 56), .ref (x + 59), .ref (x + 61), .ref (x + 68), .ref (x + 130), .ref (x + 132), .ref (x + 133), .ref (x + 135), vi sd]) := (nfr _ (by omega)).trans hx
      have fr__1 : ∀ q : Nat, ((q < x + 1 ∨ x + 4 < q) ∧ (q < x + 59 ∨ x + 60 < q)) → h36 q = h q := fun q hq => (nfr q (by omega)).trans (fr0 q hq)
      refine g_goto k (tgt := 49) dX9_tellFirstOpen_39 (by decide) ?_
      rw [← hQQ]
      refine g_retv k rfl dX9_tellFirstOpen_49 ?_
      first | (have e : fso (opt M a b) a b = (0, a, b) := (by unfold fso; rw [if_pos (by omega)]); rw [e]; exact ⟨hS1, nM, (by assumption)⟩) | (have e : fso (opt M a b) a b = (0, b, a) := (by unfold fso; rw [if_neg (by omega), if_pos (by omega)]); rw [e]; exact ⟨hS1, nM, (by assumption)⟩) | (have e : fso (opt M a b) a b = (1, a, b) := (by unfold fso; rw [if_neg (by omega), if_neg (by omega)]); rw [e]; exact ⟨hS1, nM, (by assumption)⟩)
  · skip
    refine g_aload_n k rfl dX9_tellFirstOpen_16 ?_
    refine g_iconst k dX9_tellFirstOpen_17 ?_
    refine g_iload_n k rfl dX9_tellFirstOpen_18 ?_
    refine g_iload_n k rfl dX9_tellFirstOpen_19 ?_
    refine g_cVv k 9 (As := [vi 0, vi (a : Int), vi (b : Int)]) v_X9_tellWeighed rfl rfl hx ml_X9_314 (c_X9_tellWeighed hS hSm hM hB hB2 (k1 := 0) (a := a) (b := b) (by omega) (by omega) (by omega) hl) (by omega) (by omega) rfl (Nat.le_of_ble_eq_true rfl) rfl dX9_tellFirstOpen_20 (fun h20 p20 => ?_)
    obtain ⟨hS1, nM, nfr⟩ := p20
    have hx__2 : h20 x = some (ob 9 [.ref (x + 1), .ref (x + 5), .ref (x + 9), .ref (x + 43), .ref (x + 52), .ref (x + 53), .ref (x + 56), .ref (x + 59), .ref (x + 61), .ref (x + 68), .ref (x + 130), .ref (x + 132), .ref (x + 133), .ref (x + 135), vi sd]) := (nfr _ (by omega)).trans hx
    have fr__2 : ∀ q : Nat, ((q < x + 1 ∨ x + 4 < q) ∧ (q < x + 59 ∨ x + 60 < q)) → h20 q = h q := fun q hq => (nfr q (by omega)).trans (fr0 q hq)
    refine g_goto k (tgt := 49) dX9_tellFirstOpen_23 (by decide) ?_
    rw [← hQQ]
    refine g_retv k rfl dX9_tellFirstOpen_49 ?_
    first | (have e : fso (opt M a b) a b = (0, a, b) := (by unfold fso; rw [if_pos (by omega)]); rw [e]; exact ⟨hS1, nM, (by assumption)⟩) | (have e : fso (opt M a b) a b = (0, b, a) := (by unfold fso; rw [if_neg (by omega), if_pos (by omega)]); rw [e]; exact ⟨hS1, nM, (by assumption)⟩) | (have e : fso (opt M a b) a b = (1, a, b) := (by unfold fso; rw [if_neg (by omega), if_neg (by omega)]); rw [e]; exact ⟨hS1, nM, (by assumption)⟩)

abbrev FnS : Type := Fs × (Nat → Int) × Nat
noncomputable def fn1 (it a b : Nat) (s : FnS) : FnS := if ix s.1 a b = -1 then (s.1 ++ [fso (opt s.2.1 a b) a b], jnF s.2.1 it (fso (opt s.2.1 a b) a b).1 (fso (opt s.2.1 a b) a b).2.1 (fso (opt s.2.1 a b) a b).2.2, s.2.2 + 1) else s
noncomputable def fnI (it a : Nat) (s : FnS) : Nat → FnS
  | 0 => s
  | m + 1 => fn1 it a (a + 1 + m) (fnI it a s m)
noncomputable def fnO (it : Nat) (s : FnS) : Nat → FnS
  | 0 => s
  | a + 1 => fnI it a (fnO it s a) (it - (a + 1))
/-- what holds of facts and sums as facts come to them -/
def FMo (it : Nat) (FM : Fs → (Nat → Int) → Prop) : Prop := (∀ ψ M, FM ψ M → Bd 100 M ∧ Sm it ψ) ∧ ∀ ψ M a b, FM ψ M → a < b → b < it → ix ψ a b = -1 → FM (ψ ++ [fso (opt M a b) a b]) (jnF M it (fso (opt M a b) a b).1 (fso (opt M a b) a b).2.1 (fso (opt M a b) a b).2.2)
noncomputable def fnT (it : Nat) (φ : Fs) : FnS := fnO it (φ, wgh φ 0 it, 0) it
theorem fn1_le (it a b : Nat) (s : FnS) : (fn1 it a b s).2.2 ≤ s.2.2 + 1 := by unfold fn1; split <;> simp
set_option maxHeartbeats 600000 in
set_option maxRecDepth 100000 in
theorem c_X9_finish {G : Gx} {h : Hp} {nx x : Nat} {it : Nat} {φ : Fs} {ps : List (Nat × Fs)} {im : Nat → Option (Nat × Fs)} {V : RV} {n : Nat} {T : Nat → Int} {ft : Nat} (hS : SF G h x it φ ps im V n T ft) (hSm : Sm it φ) {FM : Fs → (Nat → Int) → Prop} (hFo : FMo it FM) (hF0 : FM φ (wgh φ 0 it)) : Con G yX9_finish cX9_finish 4 (some .int) 7 0 0 [.ref x] h nx (PI fun z h' => z = ((fnT it φ).2.2 : Nat) ∧ SF G h' x it (fnT it φ).1 (if 0 < (fnT it φ).2.2 then psh ps (it, φ) else ps) im V n T ft ∧ ∀ q : Nat, (q < x ∨ x + 140 < q) → h' q = h q) := by
  obtain ⟨⟨sd, hx⟩, cF, cM, cP, cI, cV, cK, cR, cO, cW, cS, cZ, cT, cD⟩ := id hS
  have cF : FA G h (x + 1) it φ := cF
  have cP : PA G h (x + 9) ps := cP
  have cV : GV G h (x + 53) V := cV
  have cT : TA G h (x + 133) n T := cT
  have hf := cF.ob
  have hp := cP.ob
  have hv := cV.ob
  have ht := cT.1
  obtain ⟨im0, mm0, Km, Fm, Sm0, hFM⟩ := cM
  have hFM : FC G h (x + 5) im0 mm0 Km Fm Sm0 := hFM
  have hm := hFM.1
  obtain ⟨itR, MR, hRA⟩ := cR
  have hRA : RA G h (x + 59) itR MR := hRA
  have hr := hRA.1
  have h8 := hSm.1
  have h28 := hSm.2.1
  refine Con.of v_X9_finish.2.2.2.2.2.1 (Nat.le_of_ble_eq_true rfl) (lv := [(0, .ref x)]) rfl (fun X k => ?_)
  generalize hQQ : QM G X nx 0 0 _ = QQ
  have fr0 : ∀ q : Nat, (q < x ∨ x + 140 < q) → h q = h q := fun _ _ => rfl
  refine g_aload_n k rfl dX9_finish_0 ?_
  refine g_get k 9 1 (C := RX9) (T := TX9) (N := 15) fl_X9_16 rfl wi_X9 (by decide) rfl hx rfl dX9_finish_1 ?_
  refine g_aload_n k rfl dX9_finish_4 ?_
  refine g_get k 9 0 (C := RX9) (T := TX9) (N := 15) fl_X9_12 rfl wi_X9 (by decide) rfl hx rfl dX9_finish_5 ?_
  refine g_cVv k 0 (As := [.ref (x + 1)]) v_X0_copyFrom rfl rfl hm ml_X9_113 (c_X0_copyFrom hFM cF h28 (by omega)) (by omega) (by omega) rfl (Nat.le_of_ble_eq_true rfl) rfl dX9_finish_8 (fun h8 p8 => ?_)
  obtain ⟨nM, nfr⟩ := p8
  have hx_ : h8 x = some (ob 9 [.ref (x + 1), .ref (x + 5), .ref (x + 9), .ref (x + 43), .ref (x + 52), .ref (x + 53), .ref (x + 56), .ref (x + 59), .ref (x + 61), .ref (x + 68), .ref (x + 130), .ref (x + 132), .ref (x + 133), .ref (x + 135), vi sd]) := (nfr _ (by omega)).trans hx
  have hf_ : h8 (x + 1) = some (ob 0 [vi (it : Int), vi (φ.length : Int), .ref (x + 1 + 1), .ref (x + 1 + 2), .ref (x + 1 + 3)]) := (nfr _ (by omega)).trans hf
  have hr_ : h8 (x + 59) = some (ob 3 [vi (itR : Int), .ref (x + 59 + 1)]) := (nfr _ (by omega)).trans hr
  have fr_ : ∀ q : Nat, (q < x ∨ x + 140 < q) → h8 q = h q := fun q hq => (nfr q (by omega)).trans (fr0 q hq)
  have hS1 := hS.sM (h' := h8) (by obtain ⟨K, F, S, hq⟩ := nM.fc; exact ⟨_, _, K, F, S, hq⟩) (fun q g => nfr q (by omega))
  have cF1 : FA G h8 (x + 1) it φ := hS1.2.1
  refine g_aload_n k rfl dX9_finish_11 ?_
  refine g_get k 9 7 (C := RX9) (T := TX9) (N := 15) fl_X9_47 rfl wi_X9 (by decide) rfl hx_ rfl dX9_finish_12 ?_
  refine g_aload_n k rfl dX9_finish_15 ?_
  refine g_get k 9 0 (C := RX9) (T := TX9) (N := 15) fl_X9_12 rfl wi_X9 (by decide) rfl hx_ rfl dX9_finish_16 ?_
  refine g_iconst k dX9_finish_19 ?_
  refine g_cVv k 3 (As := [.ref (x + 1), vi 0]) v_X3_weigh rfl rfl hr_ ml_X9_266 (c_X3_weigh cF1 hSm (by omega) (hRA.keep (fun q g1 g2 => nfr q (by omega))) (w := 0) (by omega)) (by omega) (by omega) rfl (Nat.le_of_ble_eq_true rfl) rfl dX9_finish_20 (fun h20 p20 => ?_)
  obtain ⟨nR, nfr2⟩ := p20
  have hx__1 : h20 x = some (ob 9 [.ref (x + 1), .ref (x + 5), .ref (x + 9), .ref (x + 43), .ref (x + 52), .ref (x + 53), .ref (x + 56), .ref (x + 59), .ref (x + 61), .ref (x + 68), .ref (x + 130), .ref (x + 132), .ref (x + 133), .ref (x + 135), vi sd]) := (nfr2 _ (by omega)).trans hx_
  have hf__1 : h20 (x + 1) = some (ob 0 [vi (it : Int), vi (φ.length : Int), .ref (x + 1 + 1), .ref (x + 1 + 2), .ref (x + 1 + 3)]) := (nfr2 _ (by omega)).trans hf_
  have hr__1 : h20 (x + 59) = some (ob 3 [vi (it : Int), .ref (x + 59 + 1)]) := nR.1
  have fr__1 : ∀ q : Nat, (q < x ∨ x + 140 < q) → h20 q = h q := fun q hq => (nfr2 q (by omega)).trans (fr_ q hq)
  have hS2 := hS1.sR ⟨_, _, nR⟩ (fun q g => nfr2 q (by omega))
  have nM2 := nM.keep (fun q g1 g2 => nfr2 q (by omega))
  refine g_iconst k dX9_finish_23 ?_
  refine g_istore_n k (lv2 := [(0, .ref x), (1, vi 0)]) (by decide) rfl rfl dX9_finish_24 ?_
  refine g_iconst k dX9_finish_25 ?_
  refine g_istore_n k (lv2 := [(0, .ref x), (1, vi 0), (2, vi 0)]) (by decide) rfl rfl dX9_finish_26 ?_
  have K27 : ∀ (nz : Nat) (a : Nat) (h27 : Hp) (hx__2 : h27 x = some (ob 9 [.ref (x + 1), .ref (x + 5), .ref (x + 9), .ref (x + 43), .ref (x + 52), .ref (x + 53), .ref (x + 56), .ref (x + 59), .ref (x + 61), .ref (x + 68), .ref (x + 130), .ref (x + 132), .ref (x + 133), .ref (x + 135), vi sd])) (hf__2 : h27 (x + 1) = some (ob 0 [vi (it : Int), vi ((fnO it (φ, wgh φ 0 it, 0) a).1.length : Int), .ref (x + 1 + 1), .ref (x + 1 + 2), .ref (x + 1 + 3)])) (hr__2 : h27 (x + 59) = some (ob 3 [vi (it : Int), .ref (x + 59 + 1)])) (fr__2 : ∀ q : Nat, (q < x ∨ x + 140 < q) → h27 q = h q) (ha : a ≤ it) (hS4 : SF G h27 x it (fnO it (φ, wgh φ 0 it, 0) a).1 ps im V n T ft) (hR4 : RA G h27 (x + 59) it (fnO it (φ, wgh φ 0 it, 0) a).2.1) (hM4 : FA G h27 (x + 5) it φ) (hF4 : FM (fnO it (φ, wgh φ 0 it, 0) a).1 (fnO it (φ, wgh φ 0 it, 0) a).2.1) (hc4 : (fnO it (φ, wgh φ 0 it, 0) a).2.2 ≤ 100 * a) (hmz : it - a < nz), Go G X 4 QQ 0 0 nx 27 [(0, .ref x), (1, vi ((fnO it (φ, wgh φ 0 it, 0) a).2.2 : Int)), (2, vi (a : Int))] [] h27 := by
    intro nz
    induction nz with
    | zero => intro a h27 hx__2 hf__2 hr__2 fr__2 ha hS4 hR4 hM4 hF4 hc4 hmz; exact absurd hmz (Nat.not_lt_zero _)
    | succ nz ih27 =>
      intro a h27 hx__2 hf__2 hr__2 fr__2 ha hS4 hR4 hM4 hF4 hc4 hmz
      refine g_iload_n k rfl dX9_finish_27 ?_
      refine g_aload_n k rfl dX9_finish_28 ?_
      refine g_get k 9 0 (C := RX9) (T := TX9) (N := 15) fl_X9_12 rfl wi_X9 (by decide) rfl hx__2 rfl dX9_finish_29 ?_
      refine g_get k 0 0 (C := RX0) (T := TX0) (N := 5) fl_X9_120 rfl wi_X0 (by decide) rfl hf__2 rfl dX9_finish_32 ?_
      refine g_icmp_ge k (tgt := 87) (by omega) (by omega) dX9_finish_35 (by decide) (fun c35 => ?_) (fun c35 => ?_)
      · skip
        have K97 : ∀ (zz : Int) (hzz : bz (0 < (fnO it (φ, wgh φ 0 it, 0) a).2.2) zz), Go G X 4 QQ 0 0 nx 97 [(0, .ref x), (1, vi ((fnO it (φ, wgh φ 0 it, 0) a).2.2 : Int)), (2, vi (a : Int))] [vi zz, .ref x] h27 := by
          intro zz hzz
          refine g_cVv k 9 (As := [vi zz]) v_X9_keepMarkIf rfl rfl hx__2 ml_X9_274 (c_X9_keepMarkIf hS4 hM4 h28 hzz) (by omega) (by omega) rfl (Nat.le_of_ble_eq_true rfl) rfl dX9_finish_97 (fun h97 p97 => ?_)
          obtain ⟨nS, nfr8⟩ := p97
          have fr__3 : ∀ q : Nat, (q < x ∨ x + 140 < q) → h97 q = h q := fun q hq => (nfr8 q (by omega)).trans (fr__2 q hq)
          refine g_iload_n k rfl dX9_finish_100 ?_
          rw [← hQQ]
          refine g_ireti k rfl dX9_finish_101 ?_
          have e1 : a = it := by omega
          subst e1
          refine ⟨rfl, ?_, fr__3⟩
          unfold fnT
          by_cases c : 0 < (fnO a (φ, wgh φ 0 a, 0) a).2.2
          · rw [if_pos c] at nS ⊢; exact nS
          · rw [if_neg c] at nS ⊢; exact nS
        refine g_aload_n k rfl dX9_finish_87 ?_
        refine g_iload_n k rfl dX9_finish_88 ?_
        refine g_if_le k (tgt := 96) (by omega) dX9_finish_89 (by decide) (fun c89 => ?_) (fun c89 => ?_)
        · skip
          refine g_iconst k dX9_finish_96 ?_
          exact K97 _ (bz.n (by omega))
        · skip
          refine g_iconst k dX9_finish_92 ?_
          refine g_goto k (tgt := 97) dX9_finish_93 (by decide) ?_
          exact K97 _ (bz.y (by omega))
      · skip
        refine g_iload_n k rfl dX9_finish_38 ?_
        refine g_iconst k dX9_finish_39 ?_
        refine g_iadd k dX9_finish_40 ?_
        refine g_istore_n k (lv2 := [(0, .ref x), (1, vi ((fnO it (φ, wgh φ 0 it, 0) a).2.2 : Int)), (2, vi (a : Int)), (3, vi ((a : Int) + 1))]) (by decide) rfl rfl dX9_finish_41 ?_
        have K42 : ∀ (nz_2 : Nat) (m : Nat) (h42 : Hp) (hx__4 : h42 x = some (ob 9 [.ref (x + 1), .ref (x + 5), .ref (x + 9), .ref (x + 43), .ref (x + 52), .ref (x + 53), .ref (x + 56), .ref (x + 59), .ref (x + 61), .ref (x + 68), .ref (x + 130), .ref (x + 132), .ref (x + 133), .ref (x + 135), vi sd])) (hf__4 : h42 (x + 1) = some (ob 0 [vi (it : Int), vi ((fnI it a (fnO it (φ, wgh φ 0 it, 0) a) m).1.length : Int), .ref (x + 1 + 1), .ref (x + 1 + 2), .ref (x + 1 + 3)])) (hr__4 : h42 (x + 59) = some (ob 3 [vi (it : Int), .ref (x + 59 + 1)])) (fr__4 : ∀ q : Nat, (q < x ∨ x + 140 < q) → h42 q = h q) (hm2 : m ≤ it - (a + 1)) (hS5 : SF G h42 x it (fnI it a (fnO it (φ, wgh φ 0 it, 0) a) m).1 ps im V n T ft) (hR5 : RA G h42 (x + 59) it (fnI it a (fnO it (φ, wgh φ 0 it, 0) a) m).2.1) (hM5 : FA G h42 (x + 5) it φ) (hF5 : FM (fnI it a (fnO it (φ, wgh φ 0 it, 0) a) m).1 (fnI it a (fnO it (φ, wgh φ 0 it, 0) a) m).2.1) (hc5 : (fnI it a (fnO it (φ, wgh φ 0 it, 0) a) m).2.2 ≤ 100 * a + m) (hmz_2 : it - (a + 1) - m < nz_2), Go G X 4 QQ 0 0 nx 42 [(0, .ref x), (1, vi ((fnI it a (fnO it (φ, wgh φ 0 it, 0) a) m).2.2 : Int)), (2, vi (a : Int)), (3, vi ((a + 1 + m : Nat) : Int))] [] h42 := by
          intro nz_2
          induction nz_2 with
          | zero => intro m h42 hx__4 hf__4 hr__4 fr__4 hm2 hS5 hR5 hM5 hF5 hc5 hmz_2; exact absurd hmz_2 (Nat.not_lt_zero _)
          | succ nz_2 ih42 =>
            intro m h42 hx__4 hf__4 hr__4 fr__4 hm2 hS5 hR5 hM5 hF5 hc5 hmz_2
            have hsm5 := (hFo.1 _ _ hF5).2
            have hb5 := (hFo.1 _ _ hF5).1
            have hib := @ix_b (fnI it a (fnO it (φ, wgh φ 0 it, 0) a) m).1 (a : Int) ((a + 1 + m : Nat) : Int)
            have hl5 := hsm5.2.1
            refine g_iload_n k rfl dX9_finish_42 ?_
            refine g_aload_n k rfl dX9_finish_43 ?_
            refine g_get k 9 0 (C := RX9) (T := TX9) (N := 15) fl_X9_12 rfl wi_X9 (by decide) rfl hx__4 rfl dX9_finish_44 ?_
            refine g_get k 0 0 (C := RX0) (T := TX0) (N := 5) fl_X9_120 rfl wi_X0 (by decide) rfl hf__4 rfl dX9_finish_47 ?_
            refine g_icmp_ge k (tgt := 81) (by omega) (by omega) dX9_finish_50 (by decide) (fun c50 => ?_) (fun c50 => ?_)
            · skip
              refine g_iinc k (lv2 := [(0, .ref x), (1, vi ((fnI it a (fnO it (φ, wgh φ 0 it, 0) a) m).2.2 : Int)), (2, vi ((a : Int) + 1)), (3, vi ((a + 1 + m : Nat) : Int))]) rfl (by decide) rfl rfl dX9_finish_81 ?_
              refine g_goto k (tgt := 27) dX9_finish_84 (by decide) ?_
              refine g_less (lv2 := [(0, .ref x), (1, vi ((fnI it a (fnO it (φ, wgh φ 0 it, 0) a) m).2.2 : Int)), (2, vi ((a : Int) + 1))]) ⟨rfl, rfl, rfl, trivial⟩ ?_
              have em : fnO it (φ, wgh φ 0 it, 0) (a + 1) = (fnI it a (fnO it (φ, wgh φ 0 it, 0) a) m) := by rw [fnO, show m = it - (a + 1) by omega]
              rw [← em] at hf__4 hS5 hR5 hF5 hc5 ⊢
              exact ih27 (a + 1) h42 hx__4 hf__4 hr__4 fr__4 (by omega) hS5 hR5 hM5 hF5 (by omega) (by omega)
            · skip
              refine g_aload_n k rfl dX9_finish_53 ?_
              refine g_get k 9 0 (C := RX9) (T := TX9) (N := 15) fl_X9_12 rfl wi_X9 (by decide) rfl hx__4 rfl dX9_finish_54 ?_
              refine g_iload_n k rfl dX9_finish_57 ?_
              refine g_iload_n k rfl dX9_finish_58 ?_
              refine g_cVi k 0 (As := [vi (a : Int), vi ((a + 1 + m : Nat) : Int)]) v_X0_indexOf rfl rfl hf__4 ml_X9_157 (c_X0_indexOf (p := (a : Int)) (q := ((a + 1 + m : Nat) : Int)) hS5.2.1 hsm5 (by omega) (by omega)) (by omega) (by omega) rfl (Nat.le_of_ble_eq_true rfl) rfl dX9_finish_59 (fun r59 h59 p59 => ?_)
              obtain ⟨eh59, p59⟩ := p59
              have eh59 := eh59.symm; subst eh59
              subst p59
              refine g_iconst k dX9_finish_62 ?_
              refine g_icmp_ne k (tgt := 75) (by omega) (by omega) dX9_finish_63 (by decide) (fun c63 => ?_) (fun c63 => ?_)
              · skip
                refine g_iinc k (lv2 := [(0, .ref x), (1, vi ((fnI it a (fnO it (φ, wgh φ 0 it, 0) a) m).2.2 : Int)), (2, vi (a : Int)), (3, vi (((a + 1 + m : Nat) : Int) + 1))]) rfl (by decide) rfl rfl dX9_finish_75 ?_
                refine g_goto k (tgt := 42) dX9_finish_78 (by decide) ?_
                have em : fnI it a (fnO it (φ, wgh φ 0 it, 0) a) (m + 1) = (fnI it a (fnO it (φ, wgh φ 0 it, 0) a) m) := by rw [fnI, fn1, if_neg (by omega)]
                rw [← em] at hf__4 hS5 hR5 hF5 hc5 ⊢
                exact ih42 (m + 1) h42 hx__4 hf__4 hr__4 fr__4 (by omega) hS5 hR5 hM5 hF5 (by omega) (by omega)
              · skip
                refine g_aload_n k rfl dX9_finish_66 ?_
                refine g_iload_n k rfl dX9_finish_67 ?_
                refine g_iload_n k rfl dX9_finish_68 ?_
                refine g_cVv k 9 (As := [vi (a : Int), vi ((a + 1 + m : Nat) : Int)]) v_X9_tellFirstOpen rfl rfl hx__4 ml_X9_270 (c_X9_tellFirstOpen hS5 hsm5 hR5 hb5 (by omega) (a := a) (b := a + 1 + m) (by omega) (by omega) (len28 hsm5 (x := a) (y := a + 1 + m) (by omega) (by omega) (by omega) (by omega))) (by omega) (by omega) rfl (Nat.le_of_ble_eq_true rfl) rfl dX9_finish_69 (fun h69 p69 => ?_)
                obtain ⟨hS6, nM6, nfr6⟩ := p69
                have hx__5 : h69 x = some (ob 9 [.ref (x + 1), .ref (x + 5), .ref (x + 9), .ref (x + 43), .ref (x + 52), .ref (x + 53), .ref (x + 56), .ref (x + 59), .ref (x + 61), .ref (x + 68), .ref (x + 130), .ref (x + 132), .ref (x + 133), .ref (x + 135), vi sd]) := (nfr6 _ (by omega)).trans hx__4
                have hf__5 : h69 (x + 1) = some (ob 0 [vi (it : Int), vi (((fnI it a (fnO it (φ, wgh φ 0 it, 0) a) m).1 ++ [fso (opt (fnI it a (fnO it (φ, wgh φ 0 it, 0) a) m).2.1 a (a + 1 + m)) a (a + 1 + m)]).length : Int), .ref (x + 1 + 1), .ref (x + 1 + 2), .ref (x + 1 + 3)]) := (FA.ob hS6.2.1)
                have hr__5 : h69 (x + 59) = some (ob 3 [vi (it : Int), .ref (x + 59 + 1)]) := nM6.1
                have fr__5 : ∀ q : Nat, (q < x ∨ x + 140 < q) → h69 q = h q := fun q hq => (nfr6 q (by omega)).trans (fr__4 q hq)
                refine g_iinc k (lv2 := [(0, .ref x), (1, vi (((fnI it a (fnO it (φ, wgh φ 0 it, 0) a) m).2.2 : Int) + 1)), (2, vi (a : Int)), (3, vi ((a + 1 + m : Nat) : Int))]) rfl (by decide) rfl rfl dX9_finish_72 ?_
                refine g_iinc k (lv2 := [(0, .ref x), (1, vi (((fnI it a (fnO it (φ, wgh φ 0 it, 0) a) m).2.2 : Int) + 1)), (2, vi (a : Int)), (3, vi (((a + 1 + m : Nat) : Int) + 1))]) rfl (by decide) rfl rfl dX9_finish_75 ?_
                refine g_goto k (tgt := 42) dX9_finish_78 (by decide) ?_
                have em : fnI it a (fnO it (φ, wgh φ 0 it, 0) a) (m + 1) = ((fnI it a (fnO it (φ, wgh φ 0 it, 0) a) m).1 ++ [fso (opt (fnI it a (fnO it (φ, wgh φ 0 it, 0) a) m).2.1 a (a + 1 + m)) a (a + 1 + m)], jnF (fnI it a (fnO it (φ, wgh φ 0 it, 0) a) m).2.1 it (fso (opt (fnI it a (fnO it (φ, wgh φ 0 it, 0) a) m).2.1 a (a + 1 + m)) a (a + 1 + m)).1 (fso (opt (fnI it a (fnO it (φ, wgh φ 0 it, 0) a) m).2.1 a (a + 1 + m)) a (a + 1 + m)).2.1 (fso (opt (fnI it a (fnO it (φ, wgh φ 0 it, 0) a) m).2.1 a (a + 1 + m)) a (a + 1 + m)).2.2, (fnI it a (fnO it (φ, wgh φ 0 it, 0) a) m).2.2 + 1) := by rw [fnI, fn1, if_pos (by omega)]
                have hF7 := hFo.2 _ _ a (a + 1 + m) hF5 (by omega) (by omega) (by omega)
                rw [show ((fnI it a (fnO it (φ, wgh φ 0 it, 0) a) m).2.2 : Int) + 1 = ((fnI it a (fnO it (φ, wgh φ 0 it, 0) a) (m + 1)).2.2 : Int) by rw [em]; rfl]
                rw [show (fnI it a (fnO it (φ, wgh φ 0 it, 0) a) m).1 ++ [fso (opt (fnI it a (fnO it (φ, wgh φ 0 it, 0) a) m).2.1 a (a + 1 + m)) a (a + 1 + m)] = (fnI it a (fnO it (φ, wgh φ 0 it, 0) a) (m + 1)).1 by rw [em]] at hf__5 hS6 hF7
                rw [show jnF (fnI it a (fnO it (φ, wgh φ 0 it, 0) a) m).2.1 it (fso (opt (fnI it a (fnO it (φ, wgh φ 0 it, 0) a) m).2.1 a (a + 1 + m)) a (a + 1 + m)).1 (fso (opt (fnI it a (fnO it (φ, wgh φ 0 it, 0) a) m).2.1 a (a + 1 + m)) a (a + 1 + m)).2.1 (fso (opt (fnI it a (fnO it (φ, wgh φ 0 it, 0) a) m).2.1 a (a + 1 + m)) a (a + 1 + m)).2.2 = (fnI it a (fnO it (φ, wgh φ 0 it, 0) a) (m + 1)).2.1 by rw [em]] at nM6 hF7
                have hc7 : (fnI it a (fnO it (φ, wgh φ 0 it, 0) a) (m + 1)).2.2 ≤ 100 * a + (m + 1) := by rw [em]; dsimp only; omega
                exact ih42 (m + 1) h69 hx__5 hf__5 hr__5 fr__5 (by omega) hS6 nM6 (hM5.keep (fun q g1 g2 => nfr6 q (by omega))) hF7 hc7 (by omega)
        exact K42 _ 0 h27 hx__2 hf__2 hr__2 fr__2 (Nat.zero_le _) hS4 hR4 hM4 hF4 hc4 (Nat.lt_succ_self _)
  exact K27 _ 0 h20 hx__1 hf__1 hr__1 fr__1 (Nat.zero_le _) hS2 nR nM2 hF0 (Nat.le_refl _) (Nat.lt_succ_self _)

def sdN (s : Int) : Int := s * 1103515245 + 12345
def drZ (s : Int) (n : Nat) : Int := if n < 1 then 0 else s % 4294967296 / 256 % n
theorem drZ_b (s : Int) {n : Nat} (h : 1 ≤ n) : 0 ≤ drZ s n ∧ drZ s n < n := by
  unfold drZ
  rw [if_neg (by omega)]
  exact ⟨Int.emod_nonneg _ (by omega), Int.emod_lt_of_pos _ (by omega)⟩
set_option maxHeartbeats 600000 in
set_option maxRecDepth 100000 in
theorem c_X9_draw {G : Gx} {h : Hp} {nx x : Nat} {sd : Int} (hx : h x = some (ob 9 [.ref (x + 1), .ref (x + 5), .ref (x + 9), .ref (x + 43), .ref (x + 52), .ref (x + 53), .ref (x + 56), .ref (x + 59), .ref (x + 61), .ref (x + 68), .ref (x + 130), .ref (x + 132), .ref (x + 133), .ref (x + 135), vi sd])) {n : Nat} (hn : n < 2147483648) : Con G yX9_draw cX9_draw 2 (some .int) 1 0 0 [.ref x, vi (n : Int)] h nx (PI fun z h' => z = drZ (sdN sd) n ∧ h' x = some (ob 9 [.ref (x + 1), .ref (x + 5), .ref (x + 9), .ref (x + 43), .ref (x + 52), .ref (x + 53), .ref (x + 56), .ref (x + 59), .ref (x + 61), .ref (x + 68), .ref (x + 130), .ref (x + 132), .ref (x + 133), .ref (x + 135), vi (sdN sd)]) ∧ ∀ q : Nat, (q < x ∨ x < q) → h' q = h q) := by
  refine Con.of v_X9_draw.2.2.2.2.2.1 (Nat.le_of_ble_eq_true rfl) (lv := [(0, .ref x), (1, vi (n : Int))]) rfl (fun X k => ?_)
  generalize hQQ : QM G X nx 0 0 _ = QQ
  have fr0 : ∀ q : Nat, (q < x ∨ x < q) → h q = h q := fun _ _ => rfl
  refine g_aload_n k rfl dX9_draw_0 ?_
  refine g_aload_n k rfl dX9_draw_1 ?_
  refine g_get k 9 14 (C := RX9) (T := TX9) (N := 15) fl_X9_92 rfl wi_X9 (by decide) rfl hx rfl dX9_draw_2 ?_
  refine g_ldcw k (z := 1103515245) cn_X9_320 rfl dX9_draw_5 ?_
  refine g_imul k dX9_draw_8 ?_
  refine g_sipush k rfl dX9_draw_9 ?_
  refine g_iadd k dX9_draw_12 ?_
  rw [show (sd * 1103515245) + 12345 = sdN sd from rfl]
  refine g_put k 9 14 (C := RX9) (T := TX9) (N := 15) fl_X9_92 rfl wi_X9 tyX9 tyX9_ok nmX9 (by decide) rfl rfl rfl rfl hx (Nat.le_of_ble_eq_true rfl) (fs2 := [.ref (x + 1), .ref (x + 5), .ref (x + 9), .ref (x + 43), .ref (x + 52), .ref (x + 53), .ref (x + 56), .ref (x + 59), .ref (x + 61), .ref (x + 68), .ref (x + 130), .ref (x + 132), .ref (x + 133), .ref (x + 135), vi (sdN sd)]) rfl rfl dX9_draw_13 (fun h13 eh13 => ?_)
  have hx_ : h13 x = some (ob 9 [.ref (x + 1), .ref (x + 5), .ref (x + 9), .ref (x + 43), .ref (x + 52), .ref (x + 53), .ref (x + 56), .ref (x + 59), .ref (x + 61), .ref (x + 68), .ref (x + 130), .ref (x + 132), .ref (x + 133), .ref (x + 135), vi (sdN sd)]) := (congrFun eh13 _).trans hup_s
  have fr_ : ∀ q : Nat, (q < x ∨ x < q) → h13 q = h q := fun q hq => (congrFun eh13 q).trans ((hup_n (by omega)).trans (fr0 q hq))
  refine g_iload_n k rfl dX9_draw_16 ?_
  refine g_iconst k dX9_draw_17 ?_
  have hsr : 0 ≤ sdN sd % 4294967296 ∧ sdN sd % 4294967296 < 4294967296 := ⟨Int.emod_nonneg _ (by omega), Int.emod_lt_of_pos _ (by omega)⟩
  refine g_icmp_ge k (tgt := 25) (by omega) (by omega) dX9_draw_18 (by decide) (fun c18 => ?_) (fun c18 => ?_)
  · skip
    refine g_aload_n k rfl dX9_draw_25 ?_
    refine g_get k 9 14 (C := RX9) (T := TX9) (N := 15) fl_X9_92 rfl wi_X9 (by decide) rfl hx_ rfl dX9_draw_26 ?_
    refine g_bipush k rfl dX9_draw_29 ?_
    refine g_iushr k (by omega) dX9_draw_31 ?_
    rw [show (sdN sd) % 4294967296 / 2 ^ (8 : Int).toNat = sdN sd % 4294967296 / 256 from rfl]
    refine g_iload_n k rfl dX9_draw_32 ?_
    refine g_irem k (by omega) (by omega) dX9_draw_33 ?_
    rw [← hQQ]
    refine g_ireti k rfl dX9_draw_34 ?_
    exact ⟨by unfold drZ; rw [if_neg (by omega)], hx_, fr_⟩
  · skip
    refine g_iconst k dX9_draw_21 ?_
    refine g_goto k (tgt := 34) dX9_draw_22 (by decide) ?_
    rw [← hQQ]
    refine g_ireti k rfl dX9_draw_34 ?_
    exact ⟨by unfold drZ; rw [if_pos (by omega)], hx_, fr_⟩

noncomputable def dgF (φ : Fs) (sd : Int) : Prop × Fs × Int := if φ.length = 0 then (False, φ, sd) else (True, fgt φ (drZ (sdN sd) φ.length).toNat, sdN sd)
noncomputable def dtB (it : Nat) (sd : Int) : Int := if drZ (sdN sd) it ≤ drZ (sdN (sdN sd)) (it - 1) then drZ (sdN (sdN sd)) (it - 1) + 1 else drZ (sdN (sdN sd)) (it - 1)
noncomputable def dtF (it : Nat) (φ : Fs) (sd : Int) : Prop × Fs × Int :=
  haveI := Classical.propDecidable (nmd it φ (drZ (sdN (sdN (sdN sd))) 2) (drZ (sdN sd) it) (dtB it sd))
  if it < 2 then (False, φ, sd) else if nmd it φ (drZ (sdN (sdN (sdN sd))) 2) (drZ (sdN sd) it) (dtB it sd) then (if opt (wgh φ 0 it) (drZ (sdN sd) it).toNat (dtB it sd).toNat / (if drZ (sdN (sdN (sdN sd))) 2 = 0 then 1 else 4) % 2 = 0 then (False, φ, sdN (sdN (sdN sd))) else (True, φ ++ [((drZ (sdN (sdN (sdN sd))) 2).toNat, (drZ (sdN sd) it).toNat, (dtB it sd).toNat)], sdN (sdN (sdN sd)))) else (False, φ, sdN (sdN (sdN sd)))
set_option maxHeartbeats 600000 in
set_option maxRecDepth 100000 in
theorem c_X9_drawForgotten {G : Gx} {h : Hp} {nx x : Nat} {it : Nat} {φ : Fs} {ps : List (Nat × Fs)} {im : Nat → Option (Nat × Fs)} {V : RV} {n : Nat} {T : Nat → Int} {ft : Nat} (hS : SF G h x it φ ps im V n T ft) {sd : Int} (hx : h x = some (ob 9 [.ref (x + 1), .ref (x + 5), .ref (x + 9), .ref (x + 43), .ref (x + 52), .ref (x + 53), .ref (x + 56), .ref (x + 59), .ref (x + 61), .ref (x + 68), .ref (x + 130), .ref (x + 132), .ref (x + 133), .ref (x + 135), vi sd])) (hSm : Sm it φ) : Con G yX9_drawForgotten cX9_drawForgotten 1 (some .boolean) 3 0 0 [.ref x] h nx (PI fun z h' => bz (dgF φ sd).1 z ∧ SF G h' x it (dgF φ sd).2.1 ps im V n T ft ∧ h' x = some (ob 9 [.ref (x + 1), .ref (x + 5), .ref (x + 9), .ref (x + 43), .ref (x + 52), .ref (x + 53), .ref (x + 56), .ref (x + 59), .ref (x + 61), .ref (x + 68), .ref (x + 130), .ref (x + 132), .ref (x + 133), .ref (x + 135), vi ((dgF φ sd).2.2)]) ∧ ∀ q : Nat, (q < x ∨ x + 4 < q) → (q < x + 59 ∨ x + 60 < q) → h' q = h q) := by
  obtain ⟨-, cF, cM, cP, cI, cV, cK, cR, cO, cW, cS, cZ, cT, cD⟩ := id hS
  have cF : FA G h (x + 1) it φ := cF
  have cP : PA G h (x + 9) ps := cP
  have cV : GV G h (x + 53) V := cV
  have cT : TA G h (x + 133) n T := cT
  have hf := cF.ob
  have hp := cP.ob
  have hv := cV.ob
  have ht := cT.1
  have h28 := hSm.2.1
  refine Con.of v_X9_drawForgotten.2.2.2.2.2.1 (Nat.le_of_ble_eq_true rfl) (lv := [(0, .ref x)]) rfl (fun X k => ?_)
  generalize hQQ : QM G X nx 0 0 _ = QQ
  have fr0 : ∀ q : Nat, ((q < x ∨ x + 4 < q) ∧ (q < x + 59 ∨ x + 60 < q)) → h q = h q := fun _ _ => rfl
  refine g_aload_n k rfl dX9_drawForgotten_0 ?_
  refine g_get k 9 0 (C := RX9) (T := TX9) (N := 15) fl_X9_12 rfl wi_X9 (by decide) rfl hx rfl dX9_drawForgotten_1 ?_
  refine g_get k 0 1 (C := RX0) (T := TX0) (N := 5) fl_X9_123 rfl wi_X0 (by decide) rfl hf rfl dX9_drawForgotten_4 ?_
  refine g_if_ne k (tgt := 12) (by omega) dX9_drawForgotten_7 (by decide) (fun c7 => ?_) (fun c7 => ?_)
  · skip
    refine g_aload_n k rfl dX9_drawForgotten_12 ?_
    refine g_get k 9 0 (C := RX9) (T := TX9) (N := 15) fl_X9_12 rfl wi_X9 (by decide) rfl hx rfl dX9_drawForgotten_13 ?_
    refine g_aload_n k rfl dX9_drawForgotten_16 ?_
    refine g_aload_n k rfl dX9_drawForgotten_17 ?_
    refine g_get k 9 0 (C := RX9) (T := TX9) (N := 15) fl_X9_12 rfl wi_X9 (by decide) rfl hx rfl dX9_drawForgotten_18 ?_
    refine g_get k 0 1 (C := RX0) (T := TX0) (N := 5) fl_X9_123 rfl wi_X0 (by decide) rfl hf rfl dX9_drawForgotten_21 ?_
    refine g_cVi k 9 (As := [vi (φ.length : Int)]) v_X9_draw rfl rfl hx ml_X9_284 (c_X9_draw hx (n := φ.length) (by omega)) (by omega) (by omega) rfl (Nat.le_of_ble_eq_true rfl) rfl dX9_drawForgotten_24 (fun r24 h24 p24 => ?_)
    obtain ⟨p24e, nx1, nfr1⟩ := p24
    subst p24e
    have hx_ : h24 x = some (ob 9 [.ref (x + 1), .ref (x + 5), .ref (x + 9), .ref (x + 43), .ref (x + 52), .ref (x + 53), .ref (x + 56), .ref (x + 59), .ref (x + 61), .ref (x + 68), .ref (x + 130), .ref (x + 132), .ref (x + 133), .ref (x + 135), vi (sdN sd)]) := nx1
    have hf_ : h24 (x + 1) = some (ob 0 [vi (it : Int), vi (φ.length : Int), .ref (x + 1 + 1), .ref (x + 1 + 2), .ref (x + 1 + 3)]) := (nfr1 _ (by omega)).trans hf
    have fr_ : ∀ q : Nat, ((q < x ∨ x + 4 < q) ∧ (q < x + 59 ∨ x + 60 < q)) → h24 q = h q := fun q hq => (nfr1 q (by omega)).trans (fr0 q hq)
    have hS1 := hS.s0 ⟨_, nx1⟩ (fun q g => nfr1 q (by omega))
    obtain ⟨K3, F3, Z3, -, k3, f3, z3, hrr⟩ : FA G h24 (x + 1) it φ := hS1.2.1
    have hdb := drZ_b (sdN sd) (n := φ.length) (by omega)
    obtain ⟨k1, ek1⟩ : ∃ k1 : Nat, drZ (sdN sd) φ.length = k1 := ⟨(drZ (sdN sd) φ.length).toNat, by omega⟩
    have hk1 : k1 < φ.length := by omega
    rw [ek1]
    refine g_cVv k 0 (As := [vi (k1 : Int)]) v_X0_remove rfl rfl hf_ ml_X9_189 (c_X0_remove ⟨hf_, k3, f3, z3⟩ h28 (k1 := k1) hk1) (by omega) (by omega) rfl (Nat.le_of_ble_eq_true rfl) rfl dX9_drawForgotten_27 (fun h27 p27 => ?_)
    obtain ⟨⟨K4, F4, Z4, ⟨na, nk, nf, nz2⟩, hcut⟩, nfr3⟩ := p27
    have hx__1 : h27 x = some (ob 9 [.ref (x + 1), .ref (x + 5), .ref (x + 9), .ref (x + 43), .ref (x + 52), .ref (x + 53), .ref (x + 56), .ref (x + 59), .ref (x + 61), .ref (x + 68), .ref (x + 130), .ref (x + 132), .ref (x + 133), .ref (x + 135), vi (sdN sd)]) := (nfr3 _ (by omega)).trans hx_
    have hf__1 : h27 (x + 1) = some (ob 0 [vi (it : Int), vi ((φ.length - 1 : Nat) : Int), .ref (x + 1 + 1), .ref (x + 1 + 2), .ref (x + 1 + 3)]) := na
    have fr__1 : ∀ q : Nat, ((q < x ∨ x + 4 < q) ∧ (q < x + 59 ∨ x + 60 < q)) → h27 q = h q := fun q hq => (nfr3 q (by omega)).trans (fr_ q hq)
    have el : (fgt φ k1).length = φ.length - 1 := List.length_eraseIdx_of_lt hk1
    have hS2 := hS1.sF (it' := it) (φ' := fgt φ k1) ⟨K4, F4, Z4, by rw [el]; exact na, nk, nf, nz2, hrr.cut hk1 hcut⟩ (fun q g => nfr3 q (by omega))
    refine g_iconst k dX9_drawForgotten_30 ?_
    rw [← hQQ]
    refine g_zreti k (by omega) rfl dX9_drawForgotten_31 ?_
    have e : dgF φ sd = (True, fgt φ k1, sdN sd) := by unfold dgF; rw [if_neg (by omega), show (drZ (sdN sd) φ.length).toNat = k1 by omega]
    rw [e]
    exact ⟨bz.y trivial, hS2, hx__1, (fun q g1 g2 => fr__1 q ⟨g1, g2⟩)⟩
  · skip
    refine g_iconst k dX9_drawForgotten_10 ?_
    rw [← hQQ]
    refine g_zreti k (by omega) rfl dX9_drawForgotten_11 ?_
    have e : dgF φ sd = (False, φ, sd) := by unfold dgF; rw [if_pos (by omega)]
    rw [e]
    exact ⟨bz.n id, hS, hx, (fun q g1 g2 => fr0 q ⟨g1, g2⟩)⟩

set_option maxHeartbeats 600000 in
set_option maxRecDepth 100000 in
theorem c_X9_drawTold {G : Gx} {h : Hp} {nx x : Nat} {it : Nat} {φ : Fs} {ps : List (Nat × Fs)} {im : Nat → Option (Nat × Fs)} {V : RV} {n : Nat} {T : Nat → Int} {ft : Nat} (hS : SF G h x it φ ps im V n T ft) {sd : Int} (hx : h x = some (ob 9 [.ref (x + 1), .ref (x + 5), .ref (x + 9), .ref (x + 43), .ref (x + 52), .ref (x + 53), .ref (x + 56), .ref (x + 59), .ref (x + 61), .ref (x + 68), .ref (x + 130), .ref (x + 132), .ref (x + 133), .ref (x + 135), vi sd])) (hSm : Sm it φ) : Con G yX9_drawTold cX9_drawTold 4 (some .boolean) 4 0 0 [.ref x] h nx (PI fun z h' => bz (dtF it φ sd).1 z ∧ SF G h' x it (dtF it φ sd).2.1 ps im V n T ft ∧ h' x = some (ob 9 [.ref (x + 1), .ref (x + 5), .ref (x + 9), .ref (x + 43), .ref (x + 52), .ref (x + 53), .ref (x + 56), .ref (x + 59), .ref (x + 61), .ref (x + 68), .ref (x + 130), .ref (x + 132), .ref (x + 133), .ref (x + 135), vi ((dtF it φ sd).2.2)]) ∧ ∀ q : Nat, (q < x ∨ x + 4 < q) → (q < x + 59 ∨ x + 60 < q) → h' q = h q) := by
  obtain ⟨-, cF, cM, cP, cI, cV, cK, cR, cO, cW, cS, cZ, cT, cD⟩ := id hS
  have cF : FA G h (x + 1) it φ := cF
  have cP : PA G h (x + 9) ps := cP
  have cV : GV G h (x + 53) V := cV
  have cT : TA G h (x + 133) n T := cT
  have hf := cF.ob
  have hp := cP.ob
  have hv := cV.ob
  have ht := cT.1
  have h28 := hSm.2.1
  have h8 := hSm.1
  obtain ⟨itR, MR, hRA⟩ := cR
  have hRA : RA G h (x + 59) itR MR := hRA
  have hr := hRA.1
  refine Con.of v_X9_drawTold.2.2.2.2.2.1 (Nat.le_of_ble_eq_true rfl) (lv := [(0, .ref x)]) rfl (fun X k => ?_)
  generalize hQQ : QM G X nx 0 0 _ = QQ
  have fr0 : ∀ q : Nat, ((q < x ∨ x + 4 < q) ∧ (q < x + 59 ∨ x + 60 < q)) → h q = h q := fun _ _ => rfl
  refine g_aload_n k rfl dX9_drawTold_0 ?_
  refine g_get k 9 0 (C := RX9) (T := TX9) (N := 15) fl_X9_12 rfl wi_X9 (by decide) rfl hx rfl dX9_drawTold_1 ?_
  refine g_get k 0 0 (C := RX0) (T := TX0) (N := 5) fl_X9_120 rfl wi_X0 (by decide) rfl hf rfl dX9_drawTold_4 ?_
  refine g_iconst k dX9_drawTold_7 ?_
  refine g_icmp_ge k (tgt := 13) (by omega) (by omega) dX9_drawTold_8 (by decide) (fun c8 => ?_) (fun c8 => ?_)
  · skip
    refine g_aload_n k rfl dX9_drawTold_13 ?_
    refine g_aload_n k rfl dX9_drawTold_14 ?_
    refine g_get k 9 0 (C := RX9) (T := TX9) (N := 15) fl_X9_12 rfl wi_X9 (by decide) rfl hx rfl dX9_drawTold_15 ?_
    refine g_get k 0 0 (C := RX0) (T := TX0) (N := 5) fl_X9_120 rfl wi_X0 (by decide) rfl hf rfl dX9_drawTold_18 ?_
    refine g_cVi k 9 (As := [vi (it : Int)]) v_X9_draw rfl rfl hx ml_X9_284 (c_X9_draw hx (n := it) (by omega)) (by omega) (by omega) rfl (Nat.le_of_ble_eq_true rfl) rfl dX9_drawTold_21 (fun r21 h21 p21 => ?_)
    obtain ⟨p21e, nx1, nfr1⟩ := p21
    subst p21e
    have hx_ : h21 x = some (ob 9 [.ref (x + 1), .ref (x + 5), .ref (x + 9), .ref (x + 43), .ref (x + 52), .ref (x + 53), .ref (x + 56), .ref (x + 59), .ref (x + 61), .ref (x + 68), .ref (x + 130), .ref (x + 132), .ref (x + 133), .ref (x + 135), vi (sdN sd)]) := nx1
    have hf_ : h21 (x + 1) = some (ob 0 [vi (it : Int), vi (φ.length : Int), .ref (x + 1 + 1), .ref (x + 1 + 2), .ref (x + 1 + 3)]) := (nfr1 _ (by omega)).trans hf
    have hr_ : h21 (x + 59) = some (ob 3 [vi (itR : Int), .ref (x + 59 + 1)]) := (nfr1 _ (by omega)).trans hr
    have fr_ : ∀ q : Nat, ((q < x ∨ x + 4 < q) ∧ (q < x + 59 ∨ x + 60 < q)) → h21 q = h q := fun q hq => (nfr1 q (by omega)).trans (fr0 q hq)
    have hS1 := hS.s0 ⟨_, nx1⟩ (fun q g => nfr1 q (by omega))
    have hd1 := drZ_b (sdN sd) (n := it) (by omega)
    refine g_istore_n k (lv2 := [(0, .ref x), (1, vi (drZ (sdN sd) (it)))]) (by decide) rfl rfl dX9_drawTold_24 ?_
    refine g_aload_n k rfl dX9_drawTold_25 ?_
    refine g_aload_n k rfl dX9_drawTold_26 ?_
    refine g_get k 9 0 (C := RX9) (T := TX9) (N := 15) fl_X9_12 rfl wi_X9 (by decide) rfl hx_ rfl dX9_drawTold_27 ?_
    refine g_get k 0 0 (C := RX0) (T := TX0) (N := 5) fl_X9_120 rfl wi_X0 (by decide) rfl hf_ rfl dX9_drawTold_30 ?_
    refine g_iconst k dX9_drawTold_33 ?_
    refine g_isub k dX9_drawTold_34 ?_
    rw [show (it : Int) - 1 = ((it - 1 : Nat) : Int) from (by omega)]
    refine g_cVi k 9 (As := [vi ((it - 1 : Nat) : Int)]) v_X9_draw rfl rfl hx_ ml_X9_284 (c_X9_draw hx_ (n := it - 1) (by omega)) (by omega) (by omega) rfl (Nat.le_of_ble_eq_true rfl) rfl dX9_drawTold_35 (fun r35 h35 p35 => ?_)
    obtain ⟨p35e, nx2, nfr2⟩ := p35
    subst p35e
    have hx__1 : h35 x = some (ob 9 [.ref (x + 1), .ref (x + 5), .ref (x + 9), .ref (x + 43), .ref (x + 52), .ref (x + 53), .ref (x + 56), .ref (x + 59), .ref (x + 61), .ref (x + 68), .ref (x + 130), .ref (x + 132), .ref (x + 133), .ref (x + 135), vi (sdN (sdN sd))]) := nx2
    have hf__1 : h35 (x + 1) = some (ob 0 [vi (it : Int), vi (φ.length : Int), .ref (x + 1 + 1), .ref (x + 1 + 2), .ref (x + 1 + 3)]) := (nfr2 _ (by omega)).trans hf_
    have hr__1 : h35 (x + 59) = some (ob 3 [vi (itR : Int), .ref (x + 59 + 1)]) := (nfr2 _ (by omega)).trans hr_
    have fr__1 : ∀ q : Nat, ((q < x ∨ x + 4 < q) ∧ (q < x + 59 ∨ x + 60 < q)) → h35 q = h q := fun q hq => (nfr2 q (by omega)).trans (fr_ q hq)
    have hS2 := hS1.s0 ⟨_, nx2⟩ (fun q g => nfr2 q (by omega))
    have hd2 := drZ_b (sdN (sdN sd)) (n := it - 1) (by omega)
    have hd4 : (drZ (sdN sd) it ≤ drZ (sdN (sdN sd)) (it - 1) ∧ dtB it sd = drZ (sdN (sdN sd)) (it - 1) + 1) ∨ (¬ drZ (sdN sd) it ≤ drZ (sdN (sdN sd)) (it - 1) ∧ dtB it sd = drZ (sdN (sdN sd)) (it - 1)) := by unfold dtB; split <;> omega
    refine g_istore_n k (lv2 := [(0, .ref x), (1, vi (drZ (sdN sd) (it))), (2, vi (drZ (sdN (sdN sd)) (it - 1)))]) (by decide) rfl rfl dX9_drawTold_38 ?_
    have K47 : Go G X 4 QQ 0 0 nx 47 [(0, .ref x), (1, vi (drZ (sdN sd) (it))), (2, vi (dtB it sd))] [] h35 := by
      refine g_aload_n k rfl dX9_drawTold_47 ?_
      refine g_iconst k dX9_drawTold_48 ?_
      refine g_cVi k 9 (As := [vi 2]) v_X9_draw rfl rfl hx__1 ml_X9_284 (c_X9_draw hx__1 (n := 2) (by omega)) (by omega) (by omega) rfl (Nat.le_of_ble_eq_true rfl) rfl dX9_drawTold_49 (fun r49 h49 p49 => ?_)
      obtain ⟨p49e, nx3, nfr3⟩ := p49
      subst p49e
      have hx__2 : h49 x = some (ob 9 [.ref (x + 1), .ref (x + 5), .ref (x + 9), .ref (x + 43), .ref (x + 52), .ref (x + 53), .ref (x + 56), .ref (x + 59), .ref (x + 61), .ref (x + 68), .ref (x + 130), .ref (x + 132), .ref (x + 133), .ref (x + 135), vi (sdN (sdN (sdN sd)))]) := nx3
      have hf__2 : h49 (x + 1) = some (ob 0 [vi (it : Int), vi (φ.length : Int), .ref (x + 1 + 1), .ref (x + 1 + 2), .ref (x + 1 + 3)]) := (nfr3 _ (by omega)).trans hf__1
      have hr__2 : h49 (x + 59) = some (ob 3 [vi (itR : Int), .ref (x + 59 + 1)]) := (nfr3 _ (by omega)).trans hr__1
      have fr__2 : ∀ q : Nat, ((q < x ∨ x + 4 < q) ∧ (q < x + 59 ∨ x + 60 < q)) → h49 q = h q := fun q hq => (nfr3 q (by omega)).trans (fr__1 q hq)
      have hS3 := hS2.s0 ⟨_, nx3⟩ (fun q g => nfr3 q (by omega))
      have hd3 := drZ_b (sdN (sdN (sdN sd))) (n := 2) (by omega)
      refine g_istore_n k (lv2 := [(0, .ref x), (1, vi (drZ (sdN sd) (it))), (2, vi (dtB it sd)), (3, vi (drZ (sdN (sdN (sdN sd))) (2)))]) (by decide) rfl rfl dX9_drawTold_52 ?_
      refine g_aload_n k rfl dX9_drawTold_53 ?_
      refine g_iload_n k rfl dX9_drawTold_54 ?_
      refine g_iload_n k rfl dX9_drawTold_55 ?_
      refine g_iload_n k rfl dX9_drawTold_56 ?_
      refine g_cVi k 9 (As := [vi (drZ (sdN (sdN (sdN sd))) (2)), vi (drZ (sdN sd) (it)), vi (dtB it sd)]) v_X9_canBeNamed rfl rfl hx__2 ml_X9_161 (c_X9_canBeNamed hS3 hSm (kx := drZ (sdN (sdN (sdN sd))) 2) (p := drZ (sdN sd) it) (p2 := dtB it sd) (by omega) (by omega) (by omega)) (by omega) (by omega) rfl (Nat.le_of_ble_eq_true rfl) rfl dX9_drawTold_57 (fun r57 h57 p57 => ?_)
      obtain ⟨eh57, p57⟩ := p57
      have eh57 := eh57.symm; subst eh57
      have q57 := p57
      have q57r := q57.r
      refine g_if_ne k (tgt := 65) (by omega) dX9_drawTold_60 (by decide) (fun c60 => ?_) (fun c60 => ?_)
      · skip
        have hnd := q57.t (by omega)
        obtain ⟨k1, ek1⟩ : ∃ k1 : Nat, drZ (sdN (sdN (sdN sd))) 2 = k1 := ⟨(drZ (sdN (sdN (sdN sd))) 2).toNat, by omega⟩
        obtain ⟨x1, ex1, hx1⟩ := nat_of hnd.2.1.1
        obtain ⟨y1, ey1, hy1⟩ := nat_of hnd.2.1.2.1
        have hk1 : k1 ≤ 1 := by omega
        have hne : x1 ≠ y1 := by have := hnd.2.1.2.2; omega
        have hix : ix φ (x1 : Int) (y1 : Int) = -1 := by rw [← ex1, ← ey1]; exact hnd.2.2
        have hdt : dtF it φ sd = (if opt (wgh φ 0 it) x1 y1 / (if k1 = 0 then 1 else 4) % 2 = 0 then (False, φ, sdN (sdN (sdN sd))) else (True, φ ++ [(k1, x1, y1)], sdN (sdN (sdN sd)))) := by
          unfold dtF
          rw [if_neg (by omega), if_pos hnd, ek1, ex1, ey1]
          simp only [Int.toNat_natCast]
          by_cases c : k1 = 0
          · rw [if_pos c, if_pos (show (k1 : Int) = 0 by omega)]
          · rw [if_neg c, if_neg (show ¬ (k1 : Int) = 0 by omega)]
        rw [ek1, ex1, ey1]
        refine g_aload_n k rfl dX9_drawTold_65 ?_
        refine g_get k 9 7 (C := RX9) (T := TX9) (N := 15) fl_X9_47 rfl wi_X9 (by decide) rfl hx__2 rfl dX9_drawTold_66 ?_
        refine g_aload_n k rfl dX9_drawTold_69 ?_
        refine g_get k 9 0 (C := RX9) (T := TX9) (N := 15) fl_X9_12 rfl wi_X9 (by decide) rfl hx__2 rfl dX9_drawTold_70 ?_
        refine g_iconst k dX9_drawTold_73 ?_
        refine g_cVv k 3 (As := [.ref (x + 1), vi 0]) v_X3_weigh rfl rfl hr__2 ml_X9_266 (c_X3_weigh hS3.2.1 hSm (by omega) (hRA.keep (fun q g1 g2 => (nfr3 q (by omega)).trans ((nfr2 q (by omega)).trans (nfr1 q (by omega))))) (w := 0) (by omega)) (by omega) (by omega) rfl (Nat.le_of_ble_eq_true rfl) rfl dX9_drawTold_74 (fun h74 p74 => ?_)
        obtain ⟨nR, nfr4⟩ := p74
        have hx__3 : h74 x = some (ob 9 [.ref (x + 1), .ref (x + 5), .ref (x + 9), .ref (x + 43), .ref (x + 52), .ref (x + 53), .ref (x + 56), .ref (x + 59), .ref (x + 61), .ref (x + 68), .ref (x + 130), .ref (x + 132), .ref (x + 133), .ref (x + 135), vi (sdN (sdN (sdN sd)))]) := (nfr4 _ (by omega)).trans hx__2
        have hf__3 : h74 (x + 1) = some (ob 0 [vi (it : Int), vi (φ.length : Int), .ref (x + 1 + 1), .ref (x + 1 + 2), .ref (x + 1 + 3)]) := (nfr4 _ (by omega)).trans hf__2
        have hr__3 : h74 (x + 59) = some (ob 3 [vi (it : Int), .ref (x + 59 + 1)]) := nR.1
        have fr__3 : ∀ q : Nat, ((q < x ∨ x + 4 < q) ∧ (q < x + 59 ∨ x + 60 < q)) → h74 q = h q := fun q hq => (nfr4 q (by omega)).trans (fr__2 q hq)
        have hS4 := hS3.sR ⟨_, _, nR⟩ (fun q g => nfr4 q (by omega))
        obtain ⟨K3, F3, Z3, -, k3, f3, z3, hrr⟩ : FA G h74 (x + 1) it φ := hS4.2.1
        have ho7 := opt_le (wgh φ 0 it) x1 y1
        obtain ⟨b1, b2, b4⟩ := bit8 (opt (wgh φ 0 it) x1 y1) (by omega)
        refine g_aload_n k rfl dX9_drawTold_77 ?_
        refine g_get k 9 7 (C := RX9) (T := TX9) (N := 15) fl_X9_47 rfl wi_X9 (by decide) rfl hx__3 rfl dX9_drawTold_78 ?_
        refine g_iload_n k rfl dX9_drawTold_81 ?_
        refine g_iload_n k rfl dX9_drawTold_82 ?_
        refine g_cVi k 3 (As := [vi (x1 : Int), vi (y1 : Int)]) v_X3_options rfl rfl hr__3 ml_X9_301 (c_X3_options nR (wgh_bd h8) (by omega) (x := x1) (y := y1) (by omega) (by omega)) (by omega) (by omega) rfl (Nat.le_of_ble_eq_true rfl) rfl dX9_drawTold_83 (fun r83 h83 p83 => ?_)
        obtain ⟨eh83, p83⟩ := p83
        have eh83 := eh83.symm; subst eh83
        subst p83
        refine g_iload_n k rfl dX9_drawTold_86 ?_
        refine g_if_ne k (tgt := 94) (by omega) dX9_drawTold_87 (by decide) (fun c87 => ?_) (fun c87 => ?_)
        · skip
          refine g_iconst k dX9_drawTold_94 ?_
          refine g_iand k (a := opt (wgh φ 0 it) x1 y1) (b := 4) (by omega) (by omega) dX9_drawTold_95 ?_
          refine g_if_ne k (tgt := 101) (by omega) dX9_drawTold_96 (by decide) (fun c96 => ?_) (fun c96 => ?_)
          · skip
            refine g_aload_n k rfl dX9_drawTold_101 ?_
            refine g_get k 9 0 (C := RX9) (T := TX9) (N := 15) fl_X9_12 rfl wi_X9 (by decide) rfl hx__3 rfl dX9_drawTold_102 ?_
            refine g_iload_n k rfl dX9_drawTold_105 ?_
            refine g_iload_n k rfl dX9_drawTold_106 ?_
            refine g_iload_n k rfl dX9_drawTold_107 ?_
            refine g_cVv k 0 (As := [vi (k1 : Int), vi (x1 : Int), vi (y1 : Int)]) v_X0_add rfl rfl hf__3 ml_X9_172 (c_X0_add ⟨hf__3, k3, f3, z3⟩ (len28 hSm hx1 hy1 hne hix) (x := (k1 : Int)) (y := (x1 : Int)) (z := (y1 : Int))) (by omega) (by omega) rfl (Nat.le_of_ble_eq_true rfl) rfl dX9_drawTold_108 (fun h108 p108 => ?_)
            obtain ⟨⟨na, nk, nf, nz2⟩, nfr5⟩ := p108
            have hx__4 : h108 x = some (ob 9 [.ref (x + 1), .ref (x + 5), .ref (x + 9), .ref (x + 43), .ref (x + 52), .ref (x + 53), .ref (x + 56), .ref (x + 59), .ref (x + 61), .ref (x + 68), .ref (x + 130), .ref (x + 132), .ref (x + 133), .ref (x + 135), vi (sdN (sdN (sdN sd)))]) := (nfr5 _ (by omega)).trans hx__3
            have hf__4 : h108 (x + 1) = some (ob 0 [vi (it : Int), vi ((φ.length + 1 : Nat) : Int), .ref (x + 1 + 1), .ref (x + 1 + 2), .ref (x + 1 + 3)]) := na
            have hr__4 : h108 (x + 59) = some (ob 3 [vi (it : Int), .ref (x + 59 + 1)]) := (nfr5 _ (by omega)).trans hr__3
            have fr__4 : ∀ q : Nat, ((q < x ∨ x + 4 < q) ∧ (q < x + 59 ∨ x + 60 < q)) → h108 q = h q := fun q hq => (nfr5 q (by omega)).trans (fr__3 q hq)
            have hS5 := hS4.sF (it' := it) (φ' := φ ++ [(k1, x1, y1)]) ⟨_, _, _, by rw [show (φ ++ [(k1, x1, y1)]).length = φ.length + 1 from List.length_append]; exact na, nk, nf, nz2, hrr.add⟩ (fun q g => nfr5 q (by omega))
            refine g_iconst k dX9_drawTold_111 ?_
            rw [← hQQ]
            refine g_zreti k (by omega) rfl dX9_drawTold_112 ?_
            have e : dtF it φ sd = (True, φ ++ [(k1, x1, y1)], sdN (sdN (sdN sd))) := by rw [hdt, if_neg (by split <;> omega)]
            rw [e]
            exact ⟨bz.y trivial, hS5, hx__4, (fun q g1 g2 => fr__4 q ⟨g1, g2⟩)⟩
          · skip
            refine g_iconst k dX9_drawTold_99 ?_
            rw [← hQQ]
            refine g_zreti k (by omega) rfl dX9_drawTold_100 ?_
            have e : dtF it φ sd = (False, φ, sdN (sdN (sdN sd))) := by rw [hdt, if_pos (by split <;> omega)]
            rw [e]
            exact ⟨bz.n id, hS4, hx__3, (fun q g1 g2 => fr__3 q ⟨g1, g2⟩)⟩
        · skip
          refine g_iconst k dX9_drawTold_90 ?_
          refine g_goto k (tgt := 95) dX9_drawTold_91 (by decide) ?_
          refine g_iand k (a := opt (wgh φ 0 it) x1 y1) (b := 1) (by omega) (by omega) dX9_drawTold_95 ?_
          refine g_if_ne k (tgt := 101) (by omega) dX9_drawTold_96 (by decide) (fun c96_1 => ?_) (fun c96_1 => ?_)
          · skip
            refine g_aload_n k rfl dX9_drawTold_101 ?_
            refine g_get k 9 0 (C := RX9) (T := TX9) (N := 15) fl_X9_12 rfl wi_X9 (by decide) rfl hx__3 rfl dX9_drawTold_102 ?_
            refine g_iload_n k rfl dX9_drawTold_105 ?_
            refine g_iload_n k rfl dX9_drawTold_106 ?_
            refine g_iload_n k rfl dX9_drawTold_107 ?_
            refine g_cVv k 0 (As := [vi (k1 : Int), vi (x1 : Int), vi (y1 : Int)]) v_X0_add rfl rfl hf__3 ml_X9_172 (c_X0_add ⟨hf__3, k3, f3, z3⟩ (len28 hSm hx1 hy1 hne hix) (x := (k1 : Int)) (y := (x1 : Int)) (z := (y1 : Int))) (by omega) (by omega) rfl (Nat.le_of_ble_eq_true rfl) rfl dX9_drawTold_108 (fun h108_1 p108_1 => ?_)
            obtain ⟨⟨na, nk, nf, nz2⟩, nfr5⟩ := p108_1
            have hx__5 : h108_1 x = some (ob 9 [.ref (x + 1), .ref (x + 5), .ref (x + 9), .ref (x + 43), .ref (x + 52), .ref (x + 53), .ref (x + 56), .ref (x + 59), .ref (x + 61), .ref (x + 68), .ref (x + 130), .ref (x + 132), .ref (x + 133), .ref (x + 135), vi (sdN (sdN (sdN sd)))]) := (nfr5 _ (by omega)).trans hx__3
            have hf__5 : h108_1 (x + 1) = some (ob 0 [vi (it : Int), vi ((φ.length + 1 : Nat) : Int), .ref (x + 1 + 1), .ref (x + 1 + 2), .ref (x + 1 + 3)]) := na
            have hr__5 : h108_1 (x + 59) = some (ob 3 [vi (it : Int), .ref (x + 59 + 1)]) := (nfr5 _ (by omega)).trans hr__3
            have fr__5 : ∀ q : Nat, ((q < x ∨ x + 4 < q) ∧ (q < x + 59 ∨ x + 60 < q)) → h108_1 q = h q := fun q hq => (nfr5 q (by omega)).trans (fr__3 q hq)
            have hS5 := hS4.sF (it' := it) (φ' := φ ++ [(k1, x1, y1)]) ⟨_, _, _, by rw [show (φ ++ [(k1, x1, y1)]).length = φ.length + 1 from List.length_append]; exact na, nk, nf, nz2, hrr.add⟩ (fun q g => nfr5 q (by omega))
            refine g_iconst k dX9_drawTold_111 ?_
            rw [← hQQ]
            refine g_zreti k (by omega) rfl dX9_drawTold_112 ?_
            have e : dtF it φ sd = (True, φ ++ [(k1, x1, y1)], sdN (sdN (sdN sd))) := by rw [hdt, if_neg (by split <;> omega)]
            rw [e]
            exact ⟨bz.y trivial, hS5, hx__5, (fun q g1 g2 => fr__5 q ⟨g1, g2⟩)⟩
          · skip
            refine g_iconst k dX9_drawTold_99 ?_
            rw [← hQQ]
            refine g_zreti k (by omega) rfl dX9_drawTold_100 ?_
            have e : dtF it φ sd = (False, φ, sdN (sdN (sdN sd))) := by rw [hdt, if_pos (by split <;> omega)]
            rw [e]
            exact ⟨bz.n id, hS4, hx__3, (fun q g1 g2 => fr__3 q ⟨g1, g2⟩)⟩
      · skip
        refine g_iconst k dX9_drawTold_63 ?_
        rw [← hQQ]
        refine g_zreti k (by omega) rfl dX9_drawTold_64 ?_
        have e : dtF it φ sd = (False, φ, sdN (sdN (sdN sd))) := by unfold dtF; rw [if_neg (by omega), if_neg (q57.f (by omega))]
        rw [e]
        exact ⟨bz.n id, hS3, hx__2, (fun q g1 g2 => fr__2 q ⟨g1, g2⟩)⟩
    refine g_iload_n k rfl dX9_drawTold_39 ?_
    refine g_iload_n k rfl dX9_drawTold_40 ?_
    refine g_icmp_lt k (tgt := 47) (by omega) (by omega) dX9_drawTold_41 (by decide) (fun c41 => ?_) (fun c41 => ?_)
    · skip
      refine g_less (lv2 := [(0, .ref x), (1, vi (drZ (sdN sd) (it))), (2, vi (dtB it sd))]) ⟨rfl, rfl, (by rw [show dtB it sd = drZ (sdN (sdN sd)) (it - 1) by omega]; rfl), trivial⟩ ?_
      exact K47 
    · skip
      refine g_iinc k (lv2 := [(0, .ref x), (1, vi (drZ (sdN sd) (it))), (2, vi ((drZ (sdN (sdN sd)) (it - 1)) + 1))]) rfl (by decide) rfl rfl dX9_drawTold_44 ?_
      refine g_less (lv2 := [(0, .ref x), (1, vi (drZ (sdN sd) (it))), (2, vi (dtB it sd))]) ⟨rfl, rfl, (by rw [show dtB it sd = drZ (sdN (sdN sd)) (it - 1) + 1 by omega]; rfl), trivial⟩ ?_
      exact K47 
  · skip
    refine g_iconst k dX9_drawTold_11 ?_
    rw [← hQQ]
    refine g_zreti k (by omega) rfl dX9_drawTold_12 ?_
    have e : dtF it φ sd = (False, φ, sd) := by unfold dtF; rw [if_pos (by omega)]
    rw [e]
    exact ⟨bz.n id, hS, hx, (fun q g1 g2 => fr0 q ⟨g1, g2⟩)⟩

