/-! the law's own fact: 0 and the number laid down, or 1 where it was thrown -/
def fQ (G : Gx) (h1 h : Hp) (nx : Nat) (C : Prop) : Array Value → State → Outcome → State → Prop := fun _ st oc t => ∃ (z : Int) (h9 : Hp), oc = .returned (some (vi z)) ∧ ((z = 0 ∧ C ∧ h9 = h1) ∨ (z = 1 ∧ ¬ C ∧ h9 = h)) ∧ Rp G h9 t.heap ∧ nx ≤ t.heap.size ∧ va_F (gA G) st t
def QL (G : Gx) (X : Cx) (h1 h : Hp) (nx : Nat) (C : Prop) : State → Prop :=
  match X with
  | (_, _, _, _, s, _, args, below, _, _) => MQ below (fQ G h1 h nx C) args s 1 6 (gA G)
theorem g_iretL {G : Gx} {X : Cx} {own nm : String} {cc : ByteArray} {nL lev MC MS nx n2 pc : Nat} {h1 h h9 : Hp} {C : Prop} {lv : List (Nat × Value)} {z : Int} (k : Ok G X own nm cc nL (some .int) lev MC MS) (hn : nx ≤ n2) (hp : (z = 0 ∧ C ∧ h9 = h1) ∨ (z = 1 ∧ ¬ C ∧ h9 = h)) (d : decode cc pc = .ok (.ireturn, 1)) : Go G X nL (QL G X h1 h nx C) 1 6 n2 pc lv [vi z] h9 := by
  obtain ⟨p, l, e, R, s, m, args, below, meth, c⟩ := X
  obtain ⟨hla, hx, hb, hml, hown, hts, hK, hr, hlocks, hB, hnm, hnw, hfr, hlo, hce, hsl⟩ := k
  intro H locs ls hR hz hS hl
  exact W.iret (v := Int32.ofInt z) hx hb hr (fun t ht hW => ⟨z, h9, rfl, hp, by rw [ht]; exact hR, by rw [ht, hz]; exact hn, hS.F ht⟩) hS.2.2 d hlocks
theorem fcV_r {it : Nat} {φ : Fs} (hS : Sm it φ) {p p2 : Int} (h : fcO φ p p2) : 0 ≤ fcV φ p p2 ∧ fcV φ p p2 ≤ 8 := by
  obtain ⟨j, ej, hj⟩ := nat_of h.1
  subst ej
  have h1 := hS.2.2 j hj
  have h2 := hS.1
  unfold fcV
  rw [Int.toNat_natCast]
  split
  · omega
  · split <;> omega
theorem run_gx {G : Gx} {p : Program} {l : Launch} {e : Env} {R : Room} {s : State} {m : MethodId} {args : Array Value} {below : List Frame} {meth : Method} {c : Code} {H : Heap} {locs : List Loc} {cells slots nx pc nL : Nat} {ls : Array Slot} {st rest : List Value} {Post : Option Value → Hp → Prop} {C : Prop} {h : Hp} {lv : List (Nat × Value)} {Q : State → Prop} {a : Array Value}
    (hr : vx_Run p l e R s m args below meth c H locs cells slots 1 6 (F0 m pc ls st) rest (cQ G nx 0 Post a) (fX G h nx C) (gA G)) (hS : va_S (gA G) s.heap H locs) (hl : lv_has ls nL lv)
    (kx : C → ∀ (q : Addr) (ce : Cell) (H1 : Heap) (locs1 : List Loc), Rp G h H1 → nx ≤ H1.size → va_S (gA G) s.heap H1 locs1 → H1[q]? = some ce → ce.vm = .none → s.vm.findClass NSE = some ce.cls → vx_W p l e R s m args below meth c H1 locs1 (cells + 1) (slots + 6) Q (F0 m pc ls rest) q)
    (kk : ∀ (v : Option Value) (h' : Hp), Post v h' → Go G (p, l, e, R, s, m, args, below, meth, c) nL Q (cells + 1) (slots + 6) nx (pc + 3) lv (v.toList ++ rest) h') : W p l e R s m args below meth c H locs cells slots Q (F0 m pc ls st) := by
  intro T hT Y
  have hS9 : ∀ (T' : State) (t st₀ : State) (L : List Loc), st₀.heap = H → T'.heap = t.heap → va_F (gA G) st₀ t → (∀ z ∈ L, gA G z.base) → va_S (gA G) s.heap T'.heap (locs ++ L) := by
    intro T' t st₀ L h0 e1 hF hL
    refine ⟨?_, fun q g1 g2 => ?_, fun q hq => ?_⟩
    · rw [e1]
      have := hF.1
      rw [h0] at this
      exact Nat.le_trans hS.1 this
    · rw [e1]
      have h3 := hF.2 q (by rw [h0]; exact Nat.lt_of_lt_of_le g1 hS.1) g2
      rw [h0] at h3
      exact h3.trans (hS.2.1 q g1 g2)
    · rcases List.mem_append.mp hq with z | z
      · exact hS.2.2 q z
      · exact hL q z
  rcases hr T hT Y with ⟨v, st₀, t, T', L, h0, X', hL, e1, e2, ⟨v2, h', hv, hp, hR', hz', hF⟩, go⟩ | ⟨q, st₀, t, T', L, E, ce, h0, X', hL, e1, e2, ⟨hE, hC, hR', hz', hF⟩, hce, hcv, hcl, go⟩
  · cases hv
    obtain ⟨t9, a1, b1⟩ := kk v h' hp T'.heap (locs ++ L) ls (by rw [e1]; exact hR') (by rw [e1]; exact hz') (hS9 T' t st₀ L h0 e1 hF hL) hl T' rfl X'
    exact ⟨t9, go t9 a1, b1⟩
  · subst hE
    obtain ⟨t9, a1, b1⟩ := kx hC q ce T'.heap (locs ++ L) (by rw [e1]; exact hR') (by rw [e1]; exact hz') (hS9 T' t st₀ L h0 e1 hF hL) (by rw [e1]; exact hce) hcv hcl T' rfl X'
    exact ⟨t9, go.trans a1, b1⟩
theorem kl_L_13 : Cond.classLink RL 13 NSE ∈ TB := tbm 801 (by decide +kernel) (by decide +kernel)
abbrev hhL : List (Nat × Nat × Nat × Nat) := [(0, 10, 13, 13)]
set_option maxHeartbeats 1000000 in
theorem t_L_fact {G : Gx} {h : Hp} {nx x la sa : Nat} {N : Nat → Int} {it : Nat} {φ : Fs} {ps : List (Nat × Fs)} {im : Nat → Option (Nat × Fs)} {V : RV} {n : Nat} {T : Nat → Int} {ft : Nat} (hF : SF G h x it φ ps im V n T ft) (hS : Sm it φ) (hl0 : G.2.2.2.stackTraces = false) {p p2 : Int} (rp : -2147483648 ≤ p ∧ p ≤ 2147483647) (rp2 : -2147483648 ≤ p2 ∧ p2 ≤ 2147483647) (hla : h la = some (al G 1 N)) :
    Met G.2.2.2 yL_fact (Cond.codeWith yL_fact cL_fact 5 (some .int) hhL :: TB) (rmL 9 1 6) (fP G [.ref x, vi p, vi p2, .ref la] h nx sa) (fQ G (hup h la (al G 1 (fu N 0 (fcV φ p p2)))) h nx (fcO φ p p2)) 1 6 (gA G) := by
  refine va_MetW (cc := cL_fact) (maxL := 5) (ret := some .int) (hh := hhL) (by decide +kernel) rfl ?_
  intro p0 e s m args below meth c s₁ B hml hP
  obtain ⟨rfl, ⟨hz, hR, hK, hnw, hB⟩, hTW⟩ := hP
  have hts := atoms_spec (ws := Cond.codeWith yL_fact cL_fact 5 (some .int) hhL :: TB) B.pre
  have htb := vx_table (x := yL_fact) B (hts _ List.mem_cons_self)
  have hown : s.vm.findClass yL_fact.cls = some m.cls := findClass_of_methodNamed B.named
  have hnm : meth.name = yL_fact.name := (name_of_methodNamed B.named B.method).1
  obtain ⟨X, hX⟩ : ∃ X : Cx, X = (p0, G.2.2.2, e, rmL 9 1 6, s, m, [Value.ref x, vi p, vi p2, .ref la].toArray, below, meth, c) := ⟨_, rfl⟩
  have k : Ok G X RL "fact" cL_fact 5 (some .int) 9 1 6 := by
    rw [hX]
    exact ⟨rfl, B.exec, B.bytes, hml, hown, fun w hw => hts w (List.mem_cons_of_mem _ hw), hK, B.returns, B.notSynchronized, by rw [hz]; exact hB, hnm, hnw, Nat.le_refl _, Nat.le_refl _, rfl, rfl⟩
  have hok : fcO φ p p2 → Go G X 5 (QL G X (hup h la (al G 1 (fu N 0 (fcV φ p p2)))) h nx (fcO φ p p2)) 1 6 nx 8 [(0, .ref x), (1, vi p), (2, vi p2), (3, .ref la)] [vi (fcV φ p p2), vi 0, .ref la] h := by
    intro ho
    have hr := fcV_r hS ho
    refine g_i2l k (by omega) dL_fact_8 ?_
    refine g_last k 0 hla (by omega) (by omega) (by decide) dL_fact_9 (fun h2 e2 => ?_)
    refine g_goto k (tgt := 17) dL_fact_10 (by decide) ?_
    refine g_iconst k dL_fact_17 ?_
    exact g_iretL k (Nat.le_refl nx) (Or.inl ⟨rfl, ho, e2⟩) dL_fact_18
  have hct : ¬ fcO φ p p2 → ∀ (n2 q : Nat), nx ≤ n2 → Go G X 5 (QL G X (hup h la (al G 1 (fu N 0 (fcV φ p p2)))) h nx (fcO φ p p2)) 1 6 n2 13 [(0, .ref x), (1, vi p), (2, vi p2), (3, .ref la)] [.ref q] h := by
    intro ho n2 q hn
    refine g_astore k (by decide) rfl rfl dL_fact_13 ?_
    refine g_iconst k dL_fact_15 ?_
    exact g_iretL k hn (Or.inr ⟨rfl, ho, rfl⟩) dL_fact_16
  have hcl : Go G X 5 (QL G X (hup h la (al G 1 (fu N 0 (fcV φ p p2)))) h nx (fcO φ p p2)) 0 0 nx 5 [(0, .ref x), (1, vi p), (2, vi p2), (3, .ref la)] [vi p2, vi p, .ref x, vi 0, .ref la] h := by
    subst hX
    intro H locs ls hR1 hz1 hS1 hl1
    obtain ⟨v1, v2, v3, v4, v5, v6, v7⟩ := v_X9_fact
    have hts2 : ∀ w ∈ TB, w.before [Value.ref x, vi p, vi p2, .ref la].toArray s = true := fun w hw => hts w (List.mem_cons_of_mem _ hw)
    obtain ⟨⟨sd, o1⟩, -⟩ := id hF
    refine run_gx (vx_runV (Ts := TB) (nL := 5) (own := RL) (C := RX9) (As := [vi p, vi p2]) (b := x) (rest := [vi 0, .ref la]) (n := 2) (index := 7) (rm := rmL 7 1 6) (bytes := cX9_fact) (maxL := 3) (ret := some .int) ⟨B.exec, B.bytes, hml, hown, hts2⟩ (t_X9_fact (nx := nx) (sa := sa) hF hS hl0 rp rp2) ⟨callB_of 2 hts2 (tb_gi v3) rfl rfl rfl (hts2 _ v4) (hts2 _ ml_L_7) v5 ⟨by decide, by decide⟩, hts2 _ v1, hts2 _ v2⟩ ⟨fP.blind, va_recv hK (hR1.one o1) (rfl : vwCl[9]? = some (RX9, TX9, 15)) (q0 := 0) rfl, fun U hU hWm => ⟨rfl, ⟨by rw [hU]; exact hz1, by rw [hU]; exact hR1, va_K.moved hWm.alike hK, hnw.warm hWm, hB⟩, by rw [hU]; exact hTW.go hWm hS1.2.1⟩⟩ rfl rfl hl1.1 rfl (Nat.le_of_ble_eq_true rfl) dL_fact_5 ⟨by decide, by decide⟩) hS1 hl1 ?_ ?_
    · intro hno q ce H1 locs1 hR2 hn2 hS2 hce hcv hcl
      refine vx_catch (own := RL) (name := NSE) hown [] _ [] htb (fun z hz9 => nomatch hz9) rfl (by decide) (hts2 _ kl_L_13) (va_Nw.use rfl (hTW.2.2.2 _ (List.mem_cons_of_mem _ (List.mem_cons_of_mem _ (List.mem_cons_of_mem _ List.mem_cons_self))))) hce hcv hcl ?_
      exact hct hno H1.size q hn2 H1 locs1 ls hR2 rfl hS2 hl1
    · intro v h2 hp
      obtain ⟨z, rfl, rfl, ho, rfl⟩ := hp
      exact hok ho
  have hb : Go G X 5 (QL G X (hup h la (al G 1 (fu N 0 (fcV φ p p2)))) h nx (fcO φ p p2)) 0 0 nx 0 [(0, .ref x), (1, vi p), (2, vi p2), (3, .ref la)] [] h := by
    refine g_aload_n k rfl dL_fact_0 ?_
    refine g_iconst k dL_fact_1 ?_
    refine g_aload_n k rfl dL_fact_2 ?_
    refine g_iload_n k rfl dL_fact_3 ?_
    refine g_iload_n k rfl dL_fact_4 ?_
    exact hcl
  have hl := lv_entry [Value.ref x, vi p, vi p2, .ref la] (n := 5) (Nat.le_of_ble_eq_true rfl)
  rw [lg_entry_eq]
  rw [hX] at hb
  exact hb s.heap [] _ hR hz va_S.rf hl
