/-! the law's entry: the classes, the arrays' classes, what a throw needs -/
theorem kn_all {s : State} (cl : List vw_C) : (∀ q ∈ cl, ∃ (cC : ClassId) (iS : Nat → Nat), u_Kn s q.1 q.2.1 q.2.2 cC iS) → ∃ (dC : Nat → ClassId) (dI : Nat → Nat → Nat), ∀ (k : Nat) (q : vw_C), cl[k]? = some q → u_Kn s q.1 q.2.1 q.2.2 (dC k) (dI k) := by
  induction cl with
  | nil => exact fun _ => ⟨fun _ => (0 : Nat), fun _ _ => 0, fun k q h => (by simp at h)⟩
  | cons r t ih =>
    intro h
    obtain ⟨c0, i0, h0⟩ := h r List.mem_cons_self
    obtain ⟨dC, dI, hd⟩ := ih (fun q hq => h q (List.mem_cons_of_mem _ hq))
    refine ⟨fun k => match k with | 0 => c0 | j + 1 => dC j, fun k => match k with | 0 => i0 | j + 1 => dI j, fun k q hk => ?_⟩
    cases k with
    | zero =>
      rw [List.getElem?_cons_zero] at hk
      cases hk
      exact h0
    | succ j =>
      rw [List.getElem?_cons_succ] at hk
      exact hd j q hk
theorem kn_vw {s : State} {args : Array Value} (htb : ∀ w ∈ TB, w.before args s = true) : ∀ q ∈ vwCl, ∃ (cC : ClassId) (iS : Nat → Nat), u_Kn s q.1 q.2.1 q.2.2 cC iS := by
  refine List.forall_mem_cons.mpr ⟨u_known htb wi_X0 (htb _ ins_X0), ?_⟩
  refine List.forall_mem_cons.mpr ⟨u_known htb wi_X1 (htb _ ins_X1), ?_⟩
  refine List.forall_mem_cons.mpr ⟨u_known htb wi_X2 (htb _ ins_X2), ?_⟩
  refine List.forall_mem_cons.mpr ⟨u_known htb wi_X3 (htb _ ins_X3), ?_⟩
  refine List.forall_mem_cons.mpr ⟨u_known htb wi_X4 (htb _ ins_X4), ?_⟩
  refine List.forall_mem_cons.mpr ⟨u_known htb wi_X5 (htb _ ins_X5), ?_⟩
  refine List.forall_mem_cons.mpr ⟨u_known htb wi_X6 (htb _ ins_X6), ?_⟩
  refine List.forall_mem_cons.mpr ⟨u_known htb wi_X7 (htb _ ins_X7), ?_⟩
  refine List.forall_mem_cons.mpr ⟨u_known htb wi_X8 (htb _ ins_X8), ?_⟩
  refine List.forall_mem_cons.mpr ⟨u_known htb wi_X9 (htb _ ins_X9), ?_⟩
  refine List.forall_mem_cons.mpr ⟨u_known htb wi_X10 (htb _ ins_X10), ?_⟩
  exact fun _ h => absurd h List.not_mem_nil
theorem ar_of {s : State} {args : Array Value} {ty : FieldType} (h : (Cond.arrayClass ty).before args s = true) : ∃ cA : ClassId, ArrOfT s cA ty ∧ s.vm.findClass ("[" ++ ty.toString) = some cA := by
  obtain ⟨cA, kA, comp, h1, h2, h3⟩ := Cond.arrayClass_spec h
  exact ⟨cA, fun n z => ⟨fun k h => (by cases h), kA, h2, comp, h3⟩, h1⟩
theorem ao_of {s : State} {C : String} (h : va_AO C s) : ∃ cA : ClassId, ArrOfT s cA (.object C) ∧ va_RA s cA (.object C) := by
  obtain ⟨comp, cA, kA, h1, -, h2, h3, h4⟩ := Cond.arrayOver_spec (va_AO.use (A := #[]) h)
  exact ⟨cA, fun n z => ⟨fun k h => (by cases h), kA, h2, comp, h3⟩, kA, comp, h2, h3, h1, h4⟩
theorem ty_all {s : State} {args : Array Value} (htb : ∀ w ∈ TB, w.before args s = true) (hnw : NW s) : ∃ ct : Nat → ClassId, ∀ (k : Nat) (q : ClassId × FieldType), ([(ct 0, .int), (ct 1, .long), (ct 2, .boolean), (ct 3, .object RX0), (ct 4, .object RX3)] : List (ClassId × FieldType))[k]? = some q → ArrOfT s q.1 q.2 ∧ va_RA s q.1 q.2 := by
  obtain ⟨a0, b0, c0⟩ := ar_of (htb _ ac_int)
  obtain ⟨a1, b1, c1⟩ := ar_of (htb _ ac_long)
  obtain ⟨a2, b2, c2⟩ := ar_of (htb _ ac_boolean)
  obtain ⟨a3, b3, c3⟩ := ao_of hnw.2.1
  obtain ⟨a4, b4, c4⟩ := ao_of hnw.2.2
  refine ⟨fun k => match k with | 0 => a0 | 1 => a1 | 2 => a2 | 3 => a3 | _ => a4, fun k q hk => ?_⟩
  match k, hk with
  | 0, hk =>
    cases hk
    exact ⟨b0, c0⟩
  | 1, hk =>
    cases hk
    exact ⟨b1, c1⟩
  | 2, hk =>
    cases hk
    exact ⟨b2, c2⟩
  | 3, hk =>
    cases hk
    exact ⟨b3, c3⟩
  | 4, hk =>
    cases hk
    exact ⟨b4, c4⟩
  | k + 5, hk => simp at hk
theorem law_tw {s : State} {args : Array Value} {G : Gx} {cur : Nat} (hts : ∀ w ∈ lw_tbl, w.before args s = true) (hgv : (Jvm.Cond.and given_1 narrow_1).before args s = true) (hG : G.2.2.1 = s.heap.size) (hc : s.vm.findClass RX9 = some cur) : ∃ sa : Nat, TW G sa s s.heap := by
  have hs := flat_of_before _ hgv
  have hA : ∀ a : Nat, a < s.heap.size → ¬ gA G a := fun a h1 h2 => by
    have h3 : G.2.2.1 ≤ a := h2
    omega
  have h845 : (Cond.stringRef RX9 139 kxT).before args s = true := hts _ (List.mem_append_right _ (List.mem_of_getElem? (l := tables_1) (i := 845) (by decide +kernel)))
  obtain ⟨-, -, -, sa, -, -, -, -, -, hev⟩ := Cond.stringRef_spec hc h845
  refine ⟨sa, vx_Zqof (hts _ (List.mem_append_right _ (List.mem_of_getElem? (l := tables_1) (i := 833) (by decide +kernel)))) (hts _ (List.mem_append_right _ (List.mem_of_getElem? (l := tables_1) (i := 15) (by decide +kernel)))) (hs _ (by decide +kernel)) hA, vx_Zqof (hts _ (List.mem_append_right _ (List.mem_of_getElem? (l := tables_1) (i := 835) (by decide +kernel)))) (hts _ (List.mem_append_right _ (List.mem_of_getElem? (l := tables_1) (i := 15) (by decide +kernel)))) (hs _ (by decide +kernel)) hA, vk_R.of h845 hev, fun w hw => ?_⟩
  simp only [kxB, List.mem_cons, List.not_mem_nil, or_false] at hw
  rcases hw with rfl | rfl | rfl | rfl
  · exact va_Nw.of rfl (hts _ (List.mem_append_right _ (List.mem_of_getElem? (l := tables_1) (i := 810) (by decide +kernel))))
  · exact va_Nw.of rfl (hts _ (List.mem_append_right _ (List.mem_of_getElem? (l := tables_1) (i := 812) (by decide +kernel))))
  · exact va_Nw.of rfl (hts _ (List.mem_append_right _ (List.mem_of_getElem? (l := tables_1) (i := 814) (by decide +kernel))))
  · exact va_Nw.of rfl (hts _ (List.mem_append_right _ (List.mem_of_getElem? (l := tables_1) (i := 808) (by decide +kernel))))
