/-! calls by contract -/
theorem st_max : Cond.static Lib.Math.max.name ∈ TB := tbm 467 (by decide +kernel) (by decide +kernel)
theorem cd_max : Cond.code Lib.Math.max.name Lib.Math.max.code 2 (some .int) ∈ TB := tbm 468 (by decide +kernel) (by decide +kernel)
theorem st_min : Cond.static Lib.Math.min.name ∈ TB := tbm 327 (by decide +kernel) (by decide +kernel)
theorem cd_min : Cond.code Lib.Math.min.name Lib.Math.min.code 2 (some .int) ∈ TB := tbm 328 (by decide +kernel) (by decide +kernel)
theorem st_abs : Cond.static Lib.Math.abs.name ∈ TB := tbm 545 (by decide +kernel) (by decide +kernel)
theorem cd_abs : Cond.code Lib.Math.abs.name Lib.Math.abs.code 1 (some .int) ∈ TB := tbm 546 (by decide +kernel) (by decide +kernel)
theorem Con.of {G : Gx} {y : MethodName} {cc : ByteArray} {nL : Nat} {ret : Option FieldType} {lev mc ms : Nat} {av : List Value} {h : Hp} {nx : Nat} {Post : Option Value → Hp → Prop} {lv : List (Nat × Value)} (hy : plainName y.cls = true) (hn : (lg_sl av).length ≤ nL) (hlv : lv_args 0 av = lv)
    (body : ∀ X : Cx, Ok G X y.cls y.name cc nL ret lev mc ms → Go G X nL (QM G X nx mc ms Post) 0 0 nx 0 lv [] h) : Con G y cc nL ret lev mc ms av h nx Post := by
  refine Met.ofW (cc := cc) (maxL := nL) (ret := ret) hy rfl ?_
  intro p e s m args below meth c s₁ B hml hP
  obtain ⟨rfl, hz, hR, hK, hnw, hB⟩ := hP
  have hts := atoms_spec (ws := Cond.code y cc nL ret :: TB) B.pre
  have hown : s.vm.findClass y.cls = some m.cls := findClass_of_methodNamed B.named
  have hnm : meth.name = y.name := (name_of_methodNamed B.named B.method).1
  have hb := body (p, G.2.2.2, e, rmL lev mc ms, s, m, av.toArray, below, meth, c) ⟨rfl, B.exec, B.bytes, hml, hown, fun w hw => hts w (List.mem_cons_of_mem _ hw), hK, B.returns, B.notSynchronized, by rw [hz]; exact hB, hnm, hnw, Nat.le_refl _, Nat.le_refl _, rfl, rfl⟩
  have hl := lv_entry av (n := nL) hn
  rw [hlv] at hl
  rw [lg_entry_eq]
  exact hb s.heap [] _ hR hz va_S.rf hl
theorem cP.blind {G : Gx} {av : List Value} {h : Hp} {nx : Nat} : FrameBlind (cP G av h nx) := by
  intro a U g mk q
  obtain ⟨q0, q1, q2, q3, q4, q5⟩ := q
  exact ⟨q0, q1, q2, va_K.moved (u := U) (U := U.calling g mk a) (Vm.Alike.refl U.vm) q3, q4, q5⟩
theorem cP.at {G : Gx} {av : List Value} {h : Hp} {nx : Nat} {s U : State} {H : Heap} (hU : U.heap = H) (hW : s.WarmedH U.vm) (hz : H.size = nx) (hR : Rp G h H) (hK : va_K G.1 vwCl (gT G) s) (hnw : NW s) (hB : G.2.2.1 ≤ nx) : cP G av h nx av.toArray U := ⟨rfl, by rw [hU]; exact hz, by rw [hU]; exact hR, va_K.moved hW.alike hK, hnw.warm hW, hB⟩
theorem run_go {G : Gx} {p : Program} {l : Launch} {e : Env} {R : Room} {s : State} {m : MethodId} {args : Array Value} {below : List Frame} {meth : Method} {c : Code} {H : Heap} {locs : List Loc} {cells slots mc ms nx pc nL : Nat} {ls : Array Slot} {st rest : List Value} {Post : Option Value → Hp → Prop} {lv : List (Nat × Value)} {Q : State → Prop} {a : Array Value}
    (hr : va_Run p l e R s m args below meth c H locs cells slots mc ms (F0 m pc ls st) rest (cQ G nx mc Post a) (gA G)) (hS : va_S (gA G) s.heap H locs) (hl : lv_has ls nL lv)
    (kk : ∀ (v : Option Value) (h' : Hp), Post v h' → Go G (p, l, e, R, s, m, args, below, meth, c) nL Q (cells + mc) (slots + ms) (nx + mc) (pc + 3) lv (v.toList ++ rest) h') : W p l e R s m args below meth c H locs cells slots Q (F0 m pc ls st) := by
  intro T hT X
  obtain ⟨v, st₀, t, T', L, h0, X', hL, e1, e2, ⟨v2, h', hv, hp, hR', hz', hF⟩, go⟩ := hr T hT X
  cases hv
  have hS' : va_S (gA G) s.heap T'.heap (locs ++ L) := by
    refine ⟨?_, fun q h1 h2 => ?_, fun q hq => ?_⟩
    · rw [e1]
      have := hF.1
      rw [h0] at this
      exact Nat.le_trans hS.1 this
    · rw [e1]
      have h3 := hF.2 q (by rw [h0]; exact Nat.lt_of_lt_of_le h1 hS.1) h2
      rw [h0] at h3
      exact h3.trans (hS.2.1 q h1 h2)
    · rcases List.mem_append.mp hq with z | z
      · exact hS.2.2 q z
      · exact hL q z
  obtain ⟨t9, a1, b1⟩ := kk v h' hp T'.heap (locs ++ L) ls (by rw [e1]; exact hR') (by rw [e1]; exact hz') hS' hl T' rfl X'
  exact ⟨t9, go t9 a1, b1⟩
theorem tb_gi {y : MethodName} {cc : ByteArray} {nL : Nat} {ret : Option FieldType} (h : Cond.code y cc nL ret ∈ TB) : GoodIn TB (Cond.code y cc nL ret :: TB) := by
  intro w hw
  rcases List.mem_cons.mp hw with rfl | hw
  · exact ⟨h, good_of_word (tb_good _ h)⟩
  · exact ⟨hw, good_of_word (tb_good _ hw)⟩
section GC
variable {G : Gx} {X : Cx} {own nm : String} {cc : ByteArray} {nL lev MC MS : Nat} {ret : Option FieldType} {Q : State → Prop} {cells slots nx pc : Nat} {lv : List (Nat × Value)} {st : List Value} {h : Hp}
variable {y : MethodName} {bytes : ByteArray} {maxL n lev2 mc ms index : Nat} {ret2 : Option FieldType} {Post : Option Value → Hp → Prop} {As rest : List Value}
theorem g_callV (k : Ok G X own nm cc nL ret lev MC MS) (ci : Nat) {C : String} {T : u_T} {N b : Nat} {fs : List Value} (v : VO y bytes maxL ret2 n) (hc : vwCl[ci]? = some (C, T, N)) (hC : y.cls = C) (ho : h b = some (ob ci fs)) (hml2 : Cond.methodLink own index y ∈ TB) (cn : Con G y bytes maxL ret2 lev2 mc ms (.ref b :: As) h nx Post) (hlev : lev2 + 1 ≤ lev) (hroom : cells + mc ≤ MC ∧ slots + ms ≤ MS) (hn : As.length = n) (hW : (rest.map fun v => v.category).sum ≤ 8) (hst : st = As.reverse ++ .ref b :: rest) (d : decode cc pc = .ok (.invokevirtual index, 3)) (kk : ∀ (v : Option Value) (h' : Hp), Post v h' → Go G X nL Q (cells + mc) (slots + ms) (nx + mc) (pc + 3) lv (v.toList ++ rest) h') : Go G X nL Q cells slots nx pc lv st h := by
  obtain ⟨p, l, e, R, s, m, args, below, meth, c⟩ := X
  obtain ⟨hla, hx, hb, hml, hown, hts, hK, hr, hlocks, hB, hnm, hnw, hfr, hlo, hce, hsl⟩ := k
  intro H locs ls hR hz hS hl
  obtain ⟨v1, v2, v3, v4, v5, v6, v7⟩ := v
  subst hla
  subst hst
  refine run_go (va_runV (Ts := TB) (nL := nL) (own := own) (C := C) (As := As) (b := b) (rest := rest) (n := n) (index := index) (rm := rmL lev2 mc ms) (bytes := bytes) (maxL := maxL) (ret := ret2) ⟨hx, hb, hml, hown, hts⟩ cn ⟨callB_of n hts (tb_gi v3) rfl rfl rfl (hts _ v4) (hts _ hml2) v5 ⟨Nat.le_trans hlev hfr, by show 8 + (maxL + 11) + 41 * lev2 ≤ _; omega⟩, hts _ v1, by rw [← hC]; exact hts _ v2⟩ ⟨cP.blind, va_recv hK (hR.one ho) hc (q0 := 0) rfl, fun U hU hWm => cP.at hU hWm hz hR hK hnw (by have := hS.1; omega)⟩ rfl hn hl.1 rfl (by show 2 * 0 + _ ≤ 8; omega) d ⟨by omega, by omega⟩) hS hl kk
theorem g_callI (k : Ok G X own nm cc nL ret lev MC MS) {b : Nat} (v : NO1 y bytes maxL n) (hml2 : Cond.methodLink own index y ∈ TB) (cn : Con G y bytes maxL none lev2 mc ms (.ref b :: As) h nx Post) (hlev : lev2 + 1 ≤ lev) (hroom : cells + mc ≤ MC ∧ slots + ms ≤ MS) (hn : As.length = n) (hW : (rest.map fun v => v.category).sum ≤ 8) (hst : st = As.reverse ++ .ref b :: rest) (d : decode cc pc = .ok (.invokespecial index, 3)) (kk : ∀ (v : Option Value) (h' : Hp), Post v h' → Go G X nL Q (cells + mc) (slots + ms) (nx + mc) (pc + 3) lv (v.toList ++ rest) h') : Go G X nL Q cells slots nx pc lv st h := by
  obtain ⟨p, l, e, R, s, m, args, below, meth, c⟩ := X
  obtain ⟨hla, hx, hb, hml, hown, hts, hK, hr, hlocks, hB, hnm, hnw, hfr, hlo, hce, hsl⟩ := k
  intro H locs ls hR hz hS hl
  obtain ⟨v1, v3, v4, v5, v6, v7, v8⟩ := v
  subst hla
  subst hst
  refine run_go (va_runI (Ts := TB) (nL := nL) (own := own) (As := As) (b := b) (rest := rest) (n := n) (index := index) (rm := rmL lev2 mc ms) (bytes := bytes) (maxL := maxL) ⟨hx, hb, hml, hown, hts⟩ cn ⟨callB_of n hts (tb_gi v3) rfl rfl rfl (hts _ v4) (hts _ hml2) v5 ⟨Nat.le_trans hlev hfr, by show 8 + (maxL + 11) + 41 * lev2 ≤ _; omega⟩, v8, hts _ v1⟩ ⟨cP.blind, fun U hU hWm => cP.at hU hWm hz hR hK hnw (by have := hS.1; omega)⟩ rfl hn hl.1 rfl (by show 2 * 0 + _ ≤ 8; omega) d ⟨by omega, by omega⟩) hS hl kk
theorem g_callN (k : Ok G X own nm cc nL ret lev MC MS) {b : Nat} {host : String} (v : NO1 y bytes maxL n) (hml2 : ∀ U : State, NW U → va_Nw (.methodLinkNest own index y host) U) (cn : Con G y bytes maxL none lev2 mc ms (.ref b :: As) h nx Post) (hlev : lev2 + 1 ≤ lev) (hroom : cells + mc ≤ MC ∧ slots + ms ≤ MS) (hn : As.length = n) (hW : (rest.map fun v => v.category).sum ≤ 8) (hst : st = As.reverse ++ .ref b :: rest) (d : decode cc pc = .ok (.invokespecial index, 3)) (kk : ∀ (v : Option Value) (h' : Hp), Post v h' → Go G X nL Q (cells + mc) (slots + ms) (nx + mc) (pc + 3) lv (v.toList ++ rest) h') : Go G X nL Q cells slots nx pc lv st h := by
  obtain ⟨p, l, e, R, s, m, args, below, meth, c⟩ := X
  obtain ⟨hla, hx, hb, hml, hown, hts, hK, hr, hlocks, hB, hnm, hnw, hfr, hlo, hce, hsl⟩ := k
  intro H locs ls hR hz hS hl
  obtain ⟨v1, v3, v4, v5, v6, v7, v8⟩ := v
  subst hla
  subst hst
  refine run_go (va_runIN (Ts := TB) (nL := nL) (own := own) (host := host) (As := As) (b := b) (rest := rest) (n := n) (index := index) (rm := rmL lev2 mc ms) (bytes := bytes) (maxL := maxL) ⟨hx, hb, hml, hown, hts⟩ cn ⟨va_cnB n hts (tb_gi v3) rfl rfl rfl (hml2 _ hnw) (hts _ v4) v5 ⟨Nat.le_trans hlev hfr, by show 8 + (maxL + 11) + 41 * lev2 ≤ _; omega⟩, v8, hts _ v1⟩ ⟨cP.blind, fun U hU hWm => cP.at hU hWm hz hR hK hnw (by have := hS.1; omega)⟩ rfl hn hl.1 rfl (by show 2 * 0 + _ ≤ 8; omega) d ⟨by omega, by omega⟩) hS hl kk
theorem g_callS (k : Ok G X own nm cc nL ret lev MC MS) (v : SO y bytes maxL ret2 n) (hml2 : Cond.methodLink own index y ∈ TB) (cn : Con G y bytes maxL ret2 lev2 mc ms As h nx Post) (hlev : lev2 + 1 ≤ lev) (hroom : cells + mc ≤ MC ∧ slots + ms ≤ MS) (hn : As.length = n) (hW : (rest.map fun v => v.category).sum ≤ 8) (hst : st = As.reverse ++ rest) (d : decode cc pc = .ok (.invokestatic index, 3)) (kk : ∀ (v : Option Value) (h' : Hp), Post v h' → Go G X nL Q (cells + mc) (slots + ms) (nx + mc) (pc + 3) lv (v.toList ++ rest) h') : Go G X nL Q cells slots nx pc lv st h := by
  obtain ⟨p, l, e, R, s, m, args, below, meth, c⟩ := X
  obtain ⟨hla, hx, hb, hml, hown, hts, hK, hr, hlocks, hB, hnm, hnw, hfr, hlo, hce, hsl⟩ := k
  intro H locs ls hR hz hS hl
  obtain ⟨v1, v3, v4, v5, v6, v7⟩ := v
  subst hla
  subst hst
  refine run_go (va_runS (Ts := TB) (nL := nL) (own := own) (As := As) (rest := rest) (n := n) (index := index) (rm := rmL lev2 mc ms) (bytes := bytes) (maxL := maxL) (ret := ret2) ⟨hx, hb, hml, hown, hts⟩ cn ⟨callB_of n hts (tb_gi v3) rfl rfl rfl (hts _ v4) (hts _ hml2) v5 ⟨Nat.le_trans hlev hfr, by show 8 + (maxL + 11) + 41 * lev2 ≤ _; omega⟩, hts _ v1⟩ ⟨cP.blind, fun U hU hWm => cP.at hU hWm hz hR hK hnw (by have := hS.1; omega)⟩ rfl hn hl.1 rfl (by show 2 * 0 + _ ≤ 8; omega) d ⟨by omega, by omega⟩) hS hl kk
theorem g_cVi (k : Ok G X own nm cc nL ret lev MC MS) {P : Int → Hp → Prop} (ci : Nat) {C : String} {T : u_T} {N b : Nat} {fs : List Value} (v : VO y bytes maxL ret2 n) (hc : vwCl[ci]? = some (C, T, N)) (hC : y.cls = C) (ho : h b = some (ob ci fs)) (hml2 : Cond.methodLink own index y ∈ TB) (cn : Con G y bytes maxL ret2 lev2 0 0 (.ref b :: As) h nx (PI P)) (hlev : lev2 + 1 ≤ lev) (hroom : cells ≤ MC ∧ slots ≤ MS) (hn : As.length = n) (hW : (rest.map fun v => v.category).sum ≤ 8) (hst : st = As.reverse ++ .ref b :: rest) (d : decode cc pc = .ok (.invokevirtual index, 3)) (kk : ∀ (z : Int) (h' : Hp), P z h' → Go G X nL Q cells slots nx (pc + 3) lv (vi z :: rest) h') : Go G X nL Q cells slots nx pc lv st h :=
  g_callV k ci v hc hC ho hml2 cn hlev hroom hn hW hst d (fun v2 h2 hp => by obtain ⟨z, hv, hp⟩ := hp; subst hv; exact kk z h2 hp)
theorem g_cVl (k : Ok G X own nm cc nL ret lev MC MS) {P : Int → Hp → Prop} (ci : Nat) {C : String} {T : u_T} {N b : Nat} {fs : List Value} (v : VO y bytes maxL ret2 n) (hc : vwCl[ci]? = some (C, T, N)) (hC : y.cls = C) (ho : h b = some (ob ci fs)) (hml2 : Cond.methodLink own index y ∈ TB) (cn : Con G y bytes maxL ret2 lev2 0 0 (.ref b :: As) h nx (PL P)) (hlev : lev2 + 1 ≤ lev) (hroom : cells ≤ MC ∧ slots ≤ MS) (hn : As.length = n) (hW : (rest.map fun v => v.category).sum ≤ 8) (hst : st = As.reverse ++ .ref b :: rest) (d : decode cc pc = .ok (.invokevirtual index, 3)) (kk : ∀ (z : Int) (h' : Hp), P z h' → Go G X nL Q cells slots nx (pc + 3) lv (vl z :: rest) h') : Go G X nL Q cells slots nx pc lv st h :=
  g_callV k ci v hc hC ho hml2 cn hlev hroom hn hW hst d (fun v2 h2 hp => by obtain ⟨z, hv, hp⟩ := hp; subst hv; exact kk z h2 hp)
theorem g_cVv (k : Ok G X own nm cc nL ret lev MC MS) {P : Hp → Prop} (ci : Nat) {C : String} {T : u_T} {N b : Nat} {fs : List Value} (v : VO y bytes maxL ret2 n) (hc : vwCl[ci]? = some (C, T, N)) (hC : y.cls = C) (ho : h b = some (ob ci fs)) (hml2 : Cond.methodLink own index y ∈ TB) (cn : Con G y bytes maxL ret2 lev2 0 0 (.ref b :: As) h nx (PV P)) (hlev : lev2 + 1 ≤ lev) (hroom : cells ≤ MC ∧ slots ≤ MS) (hn : As.length = n) (hW : (rest.map fun v => v.category).sum ≤ 8) (hst : st = As.reverse ++ .ref b :: rest) (d : decode cc pc = .ok (.invokevirtual index, 3)) (kk : ∀ (h' : Hp), P h' → Go G X nL Q cells slots nx (pc + 3) lv rest h') : Go G X nL Q cells slots nx pc lv st h :=
  g_callV k ci v hc hC ho hml2 cn hlev hroom hn hW hst d (fun v2 h2 hp => by obtain ⟨hv, hp⟩ := hp; subst hv; exact kk h2 hp)
theorem g_cSi (k : Ok G X own nm cc nL ret lev MC MS) {P : Int → Hp → Prop} (v : SO y bytes maxL ret2 n) (hml2 : Cond.methodLink own index y ∈ TB) (cn : Con G y bytes maxL ret2 lev2 0 0 As h nx (PI P)) (hlev : lev2 + 1 ≤ lev) (hroom : cells ≤ MC ∧ slots ≤ MS) (hn : As.length = n) (hW : (rest.map fun v => v.category).sum ≤ 8) (hst : st = As.reverse ++ rest) (d : decode cc pc = .ok (.invokestatic index, 3)) (kk : ∀ (z : Int) (h' : Hp), P z h' → Go G X nL Q cells slots nx (pc + 3) lv (vi z :: rest) h') : Go G X nL Q cells slots nx pc lv st h :=
  g_callS k v hml2 cn hlev hroom hn hW hst d (fun v2 h2 hp => by obtain ⟨z, hv, hp⟩ := hp; subst hv; exact kk z h2 hp)
theorem g_cSl (k : Ok G X own nm cc nL ret lev MC MS) {P : Int → Hp → Prop} (v : SO y bytes maxL ret2 n) (hml2 : Cond.methodLink own index y ∈ TB) (cn : Con G y bytes maxL ret2 lev2 0 0 As h nx (PL P)) (hlev : lev2 + 1 ≤ lev) (hroom : cells ≤ MC ∧ slots ≤ MS) (hn : As.length = n) (hW : (rest.map fun v => v.category).sum ≤ 8) (hst : st = As.reverse ++ rest) (d : decode cc pc = .ok (.invokestatic index, 3)) (kk : ∀ (z : Int) (h' : Hp), P z h' → Go G X nL Q cells slots nx (pc + 3) lv (vl z :: rest) h') : Go G X nL Q cells slots nx pc lv st h :=
  g_callS k v hml2 cn hlev hroom hn hW hst d (fun v2 h2 hp => by obtain ⟨z, hv, hp⟩ := hp; subst hv; exact kk z h2 hp)
theorem g_cSv (k : Ok G X own nm cc nL ret lev MC MS) {P : Hp → Prop} (v : SO y bytes maxL ret2 n) (hml2 : Cond.methodLink own index y ∈ TB) (cn : Con G y bytes maxL ret2 lev2 0 0 As h nx (PV P)) (hlev : lev2 + 1 ≤ lev) (hroom : cells ≤ MC ∧ slots ≤ MS) (hn : As.length = n) (hW : (rest.map fun v => v.category).sum ≤ 8) (hst : st = As.reverse ++ rest) (d : decode cc pc = .ok (.invokestatic index, 3)) (kk : ∀ (h' : Hp), P h' → Go G X nL Q cells slots nx (pc + 3) lv rest h') : Go G X nL Q cells slots nx pc lv st h :=
  g_callS k v hml2 cn hlev hroom hn hW hst d (fun v2 h2 hp => by obtain ⟨hv, hp⟩ := hp; subst hv; exact kk h2 hp)
theorem g_copy (k : Ok G X own nm cc nL ret lev MC MS) {a b n0 n1 : Nat} {f g : Nat → Int} {sp dp n : Int} (hml2 : Cond.methodLink own index arraycopyName ∈ TB) (hini : Cond.initialized "java/lang/System" ∈ TB) (ho0 : h a = some (ai G n0 f)) (ho1 : h b = some (ai G n1 g)) (h1 : 0 ≤ sp) (h2 : 0 ≤ dp) (h3 : 0 ≤ n) (h4 : sp + n ≤ n0) (h5 : dp + n ≤ n1) (hn0 : n0 < 2147483648) (hn1 : n1 < 2147483648) (hlev : 1 ≤ lev) (hW : (st.map fun v => v.category).sum ≤ 8) (d : decode cc pc = .ok (.invokestatic index, 3)) (kk : ∀ h2 : Hp, h2 = hup h b (ai G n1 (va_cpy f g sp.toNat dp.toNat n.toNat)) → Go G X nL Q cells slots nx (pc + 3) lv st h2) : Go G X nL Q cells slots nx pc lv (vi n :: vi dp :: .ref b :: vi sp :: .ref a :: st) h := by
  obtain ⟨p, l, e, R, s, m, args, below, meth, c⟩ := X
  obtain ⟨hla, hx, hb, hml, hown, hts, hK, hr, hlocks, hB, hnm, hnw, hfr, hlo, hce, hsl⟩ := k
  intro H locs ls hR hz hS hl
  have es := iN (a := sp) (by omega)
  have ed := iN (a := dp) (by omega)
  have en := iN (a := n) (by omega)
  have nn : ∀ z : Int, 0 ≤ z → z ≤ 2147483647 → ¬ Int32.ofInt z < 0 := fun z g1 g2 q => by have := (iLt (a := z) (b := 0) (by omega) (by omega)).mp q; omega
  have hc0 : H[a]? = some (vp_cell (G.2.1 0) (n0, .inl (fun k => Int32.ofInt (f k)))) := (hR a _ ho0).1
  have hc1 : H[b]? = some (vp_cell (G.2.1 0) (n1, .inl (fun k => Int32.ofInt (g k)))) := (hR b _ ho1).1
  intro T hT XX
  obtain ⟨-, k0, hk0, cm0, hkk0⟩ := (hK.2 0 _ rfl).1 n0 (fun j => .int (Int32.ofInt (f j)))
  obtain ⟨vm', X', step⟩ := XX.arraycopy hx hown (hts _ hml2) (hts _ nat_copy) (hts _ st_copy) (hts _ hini) (src := a) (dst := b) (cs := vp_cell (G.2.1 0) (n0, .inl (fun k => Int32.ofInt (f k)))) (cd := vp_cell (G.2.1 0) (n1, .inl (fun k => Int32.ofInt (g k)))) (srcPos := Int32.ofInt sp) (destPos := Int32.ofInt dp) (n := Int32.ofInt n) (by rw [hT]; exact hc0) (by rw [hT]; exact hc1)
    (fun _ h => by cases h) (fun _ h => by cases h) (fun h => by cases h) (fun h => by cases h) hk0 hk0 hkk0 hkk0 (by simp [refKind]) (nn sp h1 (by omega)) (nn dp h2 (by omega)) (nn n h3 (by omega))
    (by rw [iT (by omega), iT (by omega)]; show ¬ _ > ((arrV _ n0 _).slots.size : Int); rw [arrV_size]; omega)
    (by rw [iT (by omega), iT (by omega)]; show ¬ _ > ((arrV _ n1 _).slots.size : Int); rw [arrV_size]; omega)
    (fun vm₁ _ i hi => by
      have hi2 : i < n.toNat := by rw [en] at hi; exact hi
      have e : (vp_cell (G.2.1 0) (n0, .inl (fun k => Int32.ofInt (f k)))).slots.getD ((Int32.ofInt sp).toNatClampNeg + i) .null = .int (Int32.ofInt (f ((Int32.ofInt sp).toNatClampNeg + i))) := by
        show (arrV _ n0 (fun j => .int (Int32.ofInt (f j)))).slots.getD _ _ = _
        rw [Array.getD_eq_getD_getElem?, arrV_read _ _ (by rw [es]; omega)]
        rfl
      refine ⟨?_, ?_⟩
      · rw [e]; rfl
      · rw [e]; exact trivial)
    (g := F0 m pc ls (vi n :: vi dp :: .ref b :: vi sp :: .ref a :: st)) rfl (by rw [hl.1, hml]) (rest := st) rfl (by rw [hb]; exact d) (by omega) (by show 2 * 0 + _ + (_ + 11) ≤ _; have hnf : nativeFrameWords "java/lang/System" "arraycopy" 5 ≤ 22 := (by decide); omega)
  have e1 : copied (vp_cell (G.2.1 0) (n0, .inl (fun k => Int32.ofInt (f k)))) (vp_cell (G.2.1 0) (n1, .inl (fun k => Int32.ofInt (g k)))) (Int32.ofInt sp) (Int32.ofInt dp) (Int32.ofInt n) = vp_cell (G.2.1 0) (n1, .inl (fun k => Int32.ofInt (va_cpy f g sp.toNat dp.toNat n.toNat k))) := by
    have h9 := va_copied (fun z => Value.int z) (G.2.1 0) (G.2.1 0) (fun k => Int32.ofInt (f k)) (fun k => Int32.ofInt (g k)) (n0 := n0) (n1 := n1) (sp := (Int32.ofInt sp).toNatClampNeg) (dp := (Int32.ofInt dp).toNatClampNeg) (n := (Int32.ofInt n).toNatClampNeg) (by rw [es, en]; omega)
    refine h9.trans ?_
    rw [es, ed, en]
    rw [vp_cell_i]
    congr 1
    funext k
    simp only [va_cpy]
    split <;> rfl
  rw [e1] at X' step
  have hlt : b < H.size := (Array.getElem?_eq_some_iff.mp hc1).1
  have hheap : ((T.setVm vm').setCell b (vp_cell (G.2.1 0) (n1, .inl (fun k => Int32.ofInt (va_cpy f g sp.toNat dp.toNat n.toNat k))))).heap = H.setIfInBounds b (vp_cell (G.2.1 0) (n1, .inl (fun k => Int32.ofInt (va_cpy f g sp.toNat dp.toNat n.toNat k)))) := by rw [← hT]; rfl
  have oq : ∀ q : Nat, q ≠ b → (H.setIfInBounds b (vp_cell (G.2.1 0) (n1, .inl (fun k => Int32.ofInt (va_cpy f g sp.toNat dp.toNat n.toNat k)))))[q]? = H[q]? := fun q hq => by simp [Array.getElem?_setIfInBounds, Ne.symm hq]
  obtain ⟨t, a1, b1⟩ := kk _ rfl _ _ ls (hR.set (hR b _ ho1).2 (show (H.setIfInBounds b _)[b]? = some _ by simp [Array.getElem?_setIfInBounds, hlt]) oq) (by simp; exact hz) ⟨by simp; exact hS.1, fun q g1 g2 => by
      rw [oq q (fun e => g2 (by rw [e]; exact (hR b _ ho1).2))]
      exact hS.2.1 q g1 g2, fun q hq => by
      rcases List.mem_append.mp hq with h | h
      · exact hS.2.2 q h
      · obtain ⟨z, -, hz⟩ := List.mem_map.mp h
        rw [← hz]
        exact (hR b _ ho1).2⟩ hl _ hheap X'
  exact ⟨t, step t a1, b1⟩
theorem g_cell {a n : Nat} {f g : Nat → Int} (ho : h a = some (ai G n f)) (hfg : ∀ j, j < n → f j = g j) (kk : ∀ h2 : Hp, h2 = hup h a (ai G n g) → Go G X nL Q cells slots nx pc lv st h2) : Go G X nL Q cells slots nx pc lv st h := by
  obtain ⟨p, l, e, R, s, m, args, below, meth, c⟩ := X
  intro H locs ls hR hz hS hl
  refine kk _ rfl H locs ls (fun b e hb => ?_) hz hS hl
  by_cases hq : b = a
  · subst hq
    rw [hup_s] at hb
    cases hb
    refine ⟨?_, (hR b _ ho).2⟩
    have h1 : H[b]? = some (vp_cell (G.2.1 0) (n, .inl (fun k => Int32.ofInt (f k)))) := (hR b _ ho).1
    show H[b]? = some (vp_cell (G.2.1 0) (n, .inl (fun k => Int32.ofInt (g k))))
    rw [h1, vp_cell_i, vp_cell_i]
    unfold arrV
    congr 3
    funext j
    dsimp only
    rw [hfg j.1 j.2]
  · rw [hup_n hq] at hb
    exact hR b e hb
end GC
