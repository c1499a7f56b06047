/-! fact: it returns, or it throws NoSuchElementException -/
abbrev NSE : String := "java/util/NoSuchElementException"
abbrev kxN : List String := ["java/lang/RuntimeException", "java/lang/Exception"]
def kxW : List Cond := Cond.classLink RX9 137 NSE :: Cond.initialized NSE :: kx_at RX9 141 NSE 13 prog_22_method_4_code kxN
def kxB : List Cond := [.declares (Bundle.initS "java/lang/RuntimeException"), .declares (Bundle.initS "java/lang/Exception"), .declares (Bundle.initS Bundle.tN), .castable NSE NSE]
theorem kxW_eq : kxW.map some = [806, 18, 15, 828, 837, 839, 842, 844, 829, 830, 26, 27, 831, 836, 840, 860, 818, 861, 820, 862, 822, 832, 834, 824, 856, 857, 859, 824, 847, 848, 849, 850, 810, 850, 851, 852, 853, 812, 853, 854, 855, 856, 814, 846, 807, 808, 815, 816, 817, 819, 821, 823, 827, 826, 825].map (fun i => tables_1[i]?) := by decide +kernel
theorem kxW_good : kxW.all (fun w => goodWord w || decide (w ∈ kxB)) = true := by decide +kernel
theorem kxB_ot : kxB.all vx_ot = true := by decide +kernel
theorem kxB_on : kxB.all (fun w => w.onTables) = true := by decide +kernel
theorem vx_on : ∀ w ∈ kxB, w.onTables = true := fun w hw => List.all_eq_true.mp kxB_on w hw
theorem kxW_tb : ∀ w ∈ kxW, w ∈ TB ∨ w ∈ kxB := by
  intro w hw
  have h1 := List.all_eq_true.mp kxW_good w hw
  rw [Bool.or_eq_true] at h1
  rcases h1 with h1 | h1
  · have h2 : some w ∈ kxW.map some := List.mem_map_of_mem hw
    rw [kxW_eq] at h2
    obtain ⟨i, -, hi⟩ := List.mem_map.mp h2
    exact Or.inl (tbm i hi h1)
  · exact Or.inr (of_decide_eq_true h1)
theorem kxW_ot : ∀ w ∈ kxW, vx_ot w = true := by
  intro w hw
  rcases kxW_tb w hw with h1 | h1
  · unfold vx_ot
    rw [tb_good w h1, Bool.or_true]
  · exact List.all_eq_true.mp kxB_ot w h1
abbrev kxT : String := "no such fact, or nothing such of it"
/-- what a throw needs of the machine: two statics of Throwable, the text -/
def TW (G : Gx) (sa : Nat) (U : State) (H : Heap) : Prop := vx_Zq Bundle.tN "UNASSIGNED_STACK" Bundle.steD (gA G) U H ∧ vx_Zq Bundle.tN "SUPPRESSED_SENTINEL" Bundle.listD (gA G) U H ∧ vk_R RX9 139 kxT sa U ∧ ∀ w ∈ kxB, va_Nw w U
theorem kxB.warm {s U : State} (hW : s.WarmedH U.vm) (h : ∀ w ∈ kxB, va_Nw w s) : ∀ w ∈ kxB, va_Nw w U := by
  intro w hw
  have h1 := h w hw
  simp only [kxB, List.mem_cons, List.not_mem_nil, or_false] at hw
  rcases hw with rfl | rfl | rfl | rfl
  · exact va_Nw.warmD hW h1
  · exact va_Nw.warmD hW h1
  · exact va_Nw.warmD hW h1
  · exact va_Nw.warmC hW h1
theorem kxB.blind {U : State} {g : JFrame} {mk : MethodId} {a : Array Value} (h : ∀ w ∈ kxB, va_Nw w U) : ∀ w ∈ kxB, va_Nw w (U.calling g mk a) := kxB.warm (s := U) (U := U.calling g mk a) (State.WarmedH.refl U) h
theorem TW.go {G : Gx} {sa : Nat} {s U : State} {H H1 : Heap} (h : TW G sa s H) (hW : s.WarmedH U.vm) (hq : ∀ a : Nat, a < H.size → ¬ gA G a → H1[a]? = H[a]?) : TW G sa U H1 := ⟨vx_Zq.moved hW.alike (h.1.kept hq), vx_Zq.moved hW.alike (h.2.1.kept hq), vk_R.warm hW h.2.2.1, kxB.warm hW h.2.2.2⟩
def fP (G : Gx) (av : List Value) (h : Hp) (nx sa : Nat) : Array Value → State → Prop := va_Pc av (fun U => (U.heap.size = nx ∧ Rp G h U.heap ∧ va_K G.1 vwCl (gT G) U ∧ NW U ∧ G.2.2.1 ≤ nx) ∧ TW G sa U U.heap)
def fX (G : Gx) (h : Hp) (nx : Nat) (C : Prop) : String → State → State → Prop := fun E st t => E = NSE ∧ C ∧ Rp G h t.heap ∧ nx ≤ t.heap.size ∧ va_F (gA G) st t
def QF (G : Gx) (X : Cx) (nx : Nat) (Post : Option Value → Hp → Prop) (XC : String → State → State → Prop) : State → Prop :=
  match X with
  | (_, _, _, _, s, _, args, below, _, _) => vx_MQ below (cQ G nx 0 Post) XC args s 1 6 (gA G)
theorem qf_ret {G : Gx} {X : Cx} {nL nx cells slots n2 pc : Nat} {Post : Option Value → Hp → Prop} {XC : String → State → State → Prop} {lv : List (Nat × Value)} {st : List Value} {h : Hp} (kk : Go G X nL (QM G X nx 0 0 Post) cells slots n2 pc lv st h) : Go G X nL (QF G X nx Post XC) cells slots n2 pc lv st h := by
  obtain ⟨p, l, e, R, s, m, args, below, meth, c⟩ := X
  intro H locs ls hR hz hS hl T hT Y
  obtain ⟨t, a1, o, b1, b2, b3, L, ⟨c1, c2, c3⟩, b5⟩ := kk H locs ls hR hz hS hl T hT Y
  exact ⟨t, a1, o, b1, b2, Or.inl ⟨b3, L, ⟨c1, c2, c3.mono (by omega) (by omega)⟩, b5⟩⟩
theorem fP.blind {G : Gx} {av : List Value} {h : Hp} {nx sa : Nat} : FrameBlind (fP G av h nx sa) := by
  intro a U g mk q
  obtain ⟨q0, ⟨q1, q2, q3, q4, q5⟩, q6, q7, q8, q9⟩ := q
  exact ⟨q0, ⟨q1, q2, va_K.moved (u := U) (U := U.calling g mk a) (Vm.Alike.refl U.vm) q3, q4, q5⟩, vx_Zq.moved (u := U) (U := U.calling g mk a) (Vm.Alike.refl U.vm) q6, vx_Zq.moved (u := U) (U := U.calling g mk a) (Vm.Alike.refl U.vm) q7, vk_R.same (u := U) (U := U.calling g mk a) rfl q8, kxB.blind q9⟩
set_option maxHeartbeats 1000000 in
theorem t_X9_fact {G : Gx} {h : Hp} {nx x sa : Nat} {it : Nat} {φ : Fs} {ps : List (Nat × Fs)} {im : Nat → Option (Nat × Fs)} {V : RV} {n : Nat} {T : Nat → Int} {ft : Nat} (hF : SF G h x it φ ps im V n T ft) (hS : Sm it φ) (hl0 : G.2.2.2.stackTraces = false) {p p2 : Int} (rp : -2147483648 ≤ p ∧ p ≤ 2147483647) (rp2 : -2147483648 ≤ p2 ∧ p2 ≤ 2147483647) :
    vx_Met G.2.2.2 yX9_fact (Cond.code yX9_fact cX9_fact 3 (some .int) :: TB) (rmL 7 1 6) (fP G [.ref x, vi p, vi p2] h nx sa) (cQ G nx 0 (PI fun z h' => h' = h ∧ fcO φ p p2 ∧ z = fcV φ p p2)) (fX G h nx (¬ fcO φ p p2)) 1 6 (gA G) := by
  refine vx_ofW (cc := cX9_fact) (maxL := 3) (ret := some .int) (by decide +kernel) rfl ?_
  intro p0 e s m args below meth c s₁ B hml htab hP
  obtain ⟨rfl, ⟨hz, hR, hK, hnw, hB⟩, hU, hN, hstr, hkb⟩ := hP
  have hts := atoms_spec (ws := Cond.code yX9_fact cX9_fact 3 (some .int) :: TB) B.pre
  have hown : s.vm.findClass yX9_fact.cls = some m.cls := findClass_of_methodNamed B.named
  have hnm : meth.name = yX9_fact.name := (name_of_methodNamed B.named B.method).1
  obtain ⟨X, hX⟩ : ∃ X : Cx, X = (p0, G.2.2.2, e, rmL 7 1 6, s, m, [Value.ref x, vi p, vi p2].toArray, below, meth, c) := ⟨_, rfl⟩
  have k : Ok G X RX9 "fact" cX9_fact 3 (some .int) 7 1 6 := by
    rw [hX]
    exact ⟨rfl, B.exec, B.bytes, hml, hown, fun w hw => hts w (List.mem_cons_of_mem _ hw), hK, B.returns, B.notSynchronized, by rw [hz]; exact hB, hnm, hnw, Nat.le_refl _, Nat.le_refl _, rfl, rfl⟩
  have hth : ¬ fcO φ p p2 → Go G X 3 (QF G X nx (PI fun z h' => h' = h ∧ fcO φ p p2 ∧ z = fcV φ p p2) (fX G h nx (¬ fcO φ p p2))) 0 0 nx 20 [(0, .ref x), (1, vi p), (2, vi p2)] [] h := by
    intro hno
    rw [hX]
    intro H locs ls hR1 hz1 hS1 hl1
    have hw : ∀ w ∈ kxW, w.before [Value.ref x, vi p, vi p2].toArray s = true := fun w hw => (kxW_tb w hw).elim (fun g => hts w (List.mem_cons_of_mem _ g)) (fun g => va_Nw.use (vx_on w g) (hkb w g))
    refine kx_makeS (cc := cX9_fact) (pc := 20) B.exec B.bytes hl0 (own := RX9) (cls := NSE) (text := kxT) (names := kxN) (ik := 137) (is := 139) (ic := 141) (sa := sa) (A := gA G) (ix := 13) (rx := prog_22_method_4_code) (by decide +kernel) (by decide +kernel) (by decide +kernel) (by decide +kernel) hown (by decide +kernel) (by decide +kernel) (hw _ List.mem_cons_self) (hw _ (List.mem_cons_of_mem _ List.mem_cons_self)) hstr (fun w h9 => hw w (List.mem_cons_of_mem _ (List.mem_cons_of_mem _ h9))) kxW_ot hU hN hS1 (hl1.1.trans hml.symm) dX9_fact_20 dX9_fact_23 dX9_fact_24 dX9_fact_26 (by decide) (by decide) (by decide) (by decide) ?_
    intro q ce H1 hce hv hcl hsz hkeep hS2
    refine vx_athrow B.exec B.bytes dX9_fact_29 ?_
    exact vx_out (fun y hy => (htab y hy).elim) B.notSynchronized hce hv hcl (fun t ht hal => ⟨rfl, hno, fun a e9 h9 => by
      rw [ht]
      exact ⟨(hR1 a e9 h9).1.kept (hkeep a (hR1 a e9 h9).1.lt), (hR1 a e9 h9).2⟩, by rw [ht, ← hz1]; exact hsz, ⟨by rw [ht]; exact hS2.1, fun q2 g1 g2 => by rw [ht]; exact hS2.2.1 q2 g1 g2⟩⟩) (fun z hz9 => hS2.2.2 z hz9) (by decide) (by decide)
  have hb : Go G X 3 (QF G X nx (PI fun z h' => h' = h ∧ fcO φ p p2 ∧ z = fcV φ p p2) (fX G h nx (¬ fcO φ p p2))) 0 0 nx 0 [(0, .ref x), (1, vi p), (2, vi p2)] [] h := by
    obtain ⟨⟨sd, o1⟩, hFA, hrest⟩ := id hF
    obtain ⟨K, Fi, Se, f1, f2, f3, f4, hrw⟩ := id hFA
    refine g_aload_n k rfl dX9_fact_0 ?_
    refine g_get k 9 0 (C := RX9) (T := TX9) (N := 15) fl_X9_12 rfl wi_X9 (by decide) rfl o1 rfl dX9_fact_1 ?_
    refine g_iload_n k rfl dX9_fact_4 ?_
    refine g_cVi k 0 (As := [vi p]) v_X0_hasFact rfl rfl f1 ml_X9_133 (c_X0_hasFact hFA hS rp) (by omega) (by omega) rfl (Nat.le_of_ble_eq_true rfl) rfl dX9_fact_5 (fun r5 h5 p5 => ?_)
    obtain ⟨eh5, p5⟩ := p5
    have eh5 := eh5.symm; subst eh5
    have hh : bz (hasI φ.length p) r5 := p5
    have hzr := hh.r
    refine g_if_eq k (tgt := 20) (by omega) dX9_fact_8 (by decide) (fun c8 => ?_) (fun c8 => ?_)
    · skip
      exact hth (fun q => by have q1 := q.2; exact absurd q.1 (by first | exact hh.f (by omega) | omega))
    · skip
      refine g_iload_n k rfl dX9_fact_11 ?_
      refine g_if_lt k (tgt := 20) (by omega) dX9_fact_12 (by decide) (fun c12 => ?_) (fun c12 => ?_)
      · skip
        exact hth (fun q => by have q1 := q.2; exact absurd q.1 (by first | exact hh.f (by omega) | omega))
      · skip
        refine g_iload_n k rfl dX9_fact_15 ?_
        refine g_iconst k dX9_fact_16 ?_
        refine g_icmp_le k (tgt := 30) (by omega) (by omega) dX9_fact_17 (by decide) (fun c17 => ?_) (fun c17 => ?_)
        · skip
          obtain ⟨j, ej, hj⟩ := nat_of (hh.t (by omega))
          subst ej
          have hl28 := hS.2.1
          have hfc : fcO φ (j : Int) p2 := ⟨hh.t (by omega), by omega, by omega⟩
          have hrj := hrw j hj
          refine g_iload_n k rfl dX9_fact_30 ?_
          refine g_if_ne k (tgt := 44) (by omega) dX9_fact_31 (by decide) (fun c31 => ?_) (fun c31 => ?_)
          · skip
            refine g_iload_n k rfl dX9_fact_44 ?_
            refine g_iconst k dX9_fact_45 ?_
            refine g_icmp_ne k (tgt := 61) (by omega) (by omega) dX9_fact_46 (by decide) (fun c46 => ?_) (fun c46 => ?_)
            · skip
              refine g_aload_n k rfl dX9_fact_61 ?_
              refine g_get k 9 0 (C := RX9) (T := TX9) (N := 15) fl_X9_12 rfl wi_X9 (by decide) rfl o1 rfl dX9_fact_62 ?_
              refine g_get k 0 4 (C := RX0) (T := TX0) (N := 5) fl_X9_150 rfl wi_X0 (by decide) rfl f1 rfl dX9_fact_65 ?_
              refine g_iload_n k rfl dX9_fact_68 ?_
              refine g_iald k j f4 (by omega) (by omega) (by decide) dX9_fact_69 ?_
              refine qf_ret ?_
              refine g_ireti k rfl dX9_fact_70 ?_
              exact ⟨rfl, hfc, by unfold fcV; rw [if_neg (by omega)]; first | (rw [if_pos (by omega), Int.toNat_natCast]; exact hrj.2.1) | (rw [if_neg (by omega), Int.toNat_natCast]; exact hrj.2.2)⟩
            · skip
              refine g_aload_n k rfl dX9_fact_49 ?_
              refine g_get k 9 0 (C := RX9) (T := TX9) (N := 15) fl_X9_12 rfl wi_X9 (by decide) rfl o1 rfl dX9_fact_50 ?_
              refine g_get k 0 3 (C := RX0) (T := TX0) (N := 5) fl_X9_147 rfl wi_X0 (by decide) rfl f1 rfl dX9_fact_53 ?_
              refine g_iload_n k rfl dX9_fact_56 ?_
              refine g_iald k j f3 (by omega) (by omega) (by decide) dX9_fact_57 ?_
              refine g_goto k (tgt := 70) dX9_fact_58 (by decide) ?_
              refine qf_ret ?_
              refine g_ireti k rfl dX9_fact_70 ?_
              exact ⟨rfl, hfc, by unfold fcV; rw [if_neg (by omega)]; first | (rw [if_pos (by omega), Int.toNat_natCast]; exact hrj.2.1) | (rw [if_neg (by omega), Int.toNat_natCast]; exact hrj.2.2)⟩
          · skip
            refine g_aload_n k rfl dX9_fact_34 ?_
            refine g_get k 9 0 (C := RX9) (T := TX9) (N := 15) fl_X9_12 rfl wi_X9 (by decide) rfl o1 rfl dX9_fact_35 ?_
            refine g_get k 0 2 (C := RX0) (T := TX0) (N := 5) fl_X9_144 rfl wi_X0 (by decide) rfl f1 rfl dX9_fact_38 ?_
            refine g_iload_n k rfl dX9_fact_41 ?_
            refine g_iald k j f2 (by omega) (by omega) (by decide) dX9_fact_42 ?_
            refine qf_ret ?_
            refine g_ireti k rfl dX9_fact_43 ?_
            exact ⟨rfl, hfc, by unfold fcV; rw [if_pos (by omega), Int.toNat_natCast]; exact hrj.1⟩
        · skip
          exact hth (fun q => by have q1 := q.2; exact absurd q.1 (by first | exact hh.f (by omega) | omega))
  have hl := lv_entry [Value.ref x, vi p, vi p2] (n := 3) (Nat.le_of_ble_eq_true rfl)
  rw [lg_entry_eq]
  rw [hX] at hb
  exact hb s.heap [] _ hR hz va_S.rf hl
