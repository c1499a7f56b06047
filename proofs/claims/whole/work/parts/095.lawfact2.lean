/-! the law's call of its own fact -/
def TWX (G : Gx) (X : Cx) (sa : Nat) : Prop :=
  match X with
  | (_, _, _, _, s, _, _, _, _, _) => TW G sa s s.heap
theorem cw_L : Cond.codeWith yL_fact cL_fact 5 (some .int) hhL ∈ TB := tbm 800 (by decide +kernel) (by decide +kernel)
theorem sc_L : Cond.static yL_fact ∈ TB := tbm 799 (by decide +kernel) (by decide +kernel)
theorem in_L : Cond.initialized RL ∈ TB := tbm 0 (by decide +kernel) (by decide +kernel)
theorem gi_L : GoodIn TB (Cond.codeWith yL_fact cL_fact 5 (some .int) hhL :: TB) := by
  intro w hw
  rcases List.mem_cons.mp hw with rfl | hw
  · exact ⟨cw_L, good_of_word (tb_good _ cw_L)⟩
  · exact ⟨hw, good_of_word (tb_good _ hw)⟩
theorem g_lfact {G : Gx} {X : Cx} {nm : String} {cc : ByteArray} {nL lev MC MS sa : Nat} {ret : Option FieldType} {Q : State → Prop} {cells slots nx pc : Nat} {lv : List (Nat × Value)} {st rest As : List Value} {h h1 : Hp} {C : Prop} (k : Ok G X RL nm cc nL ret lev MC MS) (hT : TWX G X sa)
    (cn : Met G.2.2.2 yL_fact (Cond.codeWith yL_fact cL_fact 5 (some .int) hhL :: TB) (rmL 9 1 6) (fP G As h nx sa) (fQ G h1 h nx C) 1 6 (gA G)) (hlev : 10 ≤ lev) (hroom : cells + 1 ≤ MC ∧ slots + 6 ≤ MS) (hn : As.length = 4) (hW : (rest.map fun v => v.category).sum ≤ 8) (hst : st = As.reverse ++ rest) (d : decode cc pc = .ok (.invokestatic 43, 3))
    (kk : ∀ (z : Int) (h9 : Hp) (n2 : Nat), nx ≤ n2 → ((z = 0 ∧ C ∧ h9 = h1) ∨ (z = 1 ∧ ¬ C ∧ h9 = h)) → Go G X nL Q (cells + 1) (slots + 6) n2 (pc + 3) lv (vi z :: rest) h9) : Go G X nL Q cells slots nx pc lv st h := by
  obtain ⟨p, l, e, R, s, m, args, below, meth, c⟩ := X
  obtain ⟨hla, hx, hb, hml, hown, hts, hK, hr, hlocks, hB, hnm, hnw, hfr, hlo, hce, hsl⟩ := k
  intro H locs ls hR hz hS hl T hT0 Y
  subst hla
  subst hst
  have hT2 : TW G sa s s.heap := hT
  obtain ⟨v, st₀, t, T', L, h0, X', hL, e1, e2, ⟨z, h9, hv, hp, hR9, hz9, hF⟩, go⟩ := vx_runSW (Ts := TB) (nL := nL) (own := RL) (As := As) (rest := rest) (n := 4) (index := 43) (rm := rmL 9 1 6) (bytes := cL_fact) (maxL := 5) (ret := some .int) (hh := hhL) (g := F0 m pc ls (As.reverse ++ rest)) ⟨hx, hb, hml, hown, hts⟩ cn
    ⟨⟨rfl, rfl, Nat.le_trans hlev hfr, by show 8 + (5 + 11) + 41 * 9 ≤ R.locals; omega, pay_in hts gi_L, List.mem_cons_self⟩, hts _ cw_L, hts _ in_L, ⟨by decide +kernel, by decide +kernel⟩, fun sig hs => by
      have h2 : (parseMethodDescriptor yL_fact.desc).map (fun d => d.parameters.length) = some 4 := by decide +kernel
      rw [hs] at h2
      exact (Option.some.inj h2).symm, hts _ ml_L_43, hts _ sc_L⟩
    ⟨fP.blind, fun U hU hWm => ⟨rfl, ⟨by rw [hU]; exact hz, by rw [hU]; exact hR, va_K.moved hWm.alike hK, hnw.warm hWm, by have := hS.1; omega⟩, by rw [hU]; exact hT2.go hWm hS.2.1⟩⟩ rfl hn hl.1 rfl (by show 2 * 0 + _ ≤ 8; omega) d ⟨by omega, by omega⟩ T hT0 Y
  cases hv
  have hS2 : va_S (gA G) s.heap T'.heap (locs ++ L) := by
    refine ⟨?_, fun q g1 g2 => ?_, fun q hq => ?_⟩
    · rw [e1]
      have := hF.1
      rw [h0] at this
      exact Nat.le_trans hS.1 this
    · rw [e1]
      have h3 := hF.2 q (by rw [h0]; exact Nat.lt_of_lt_of_le g1 hS.1) g2
      rw [h0] at h3
      exact h3.trans (hS.2.1 q g1 g2)
    · rcases List.mem_append.mp hq with z | z
      · exact hS.2.2 q z
      · exact hL q z
  obtain ⟨t9, a1, b1⟩ := kk z h9 T'.heap.size (by rw [e1]; exact hz9) hp T'.heap (locs ++ L) ls (by rw [e1]; exact hR9) rfl hS2 hl T' rfl X'
  exact ⟨t9, go t9 a1, b1⟩
