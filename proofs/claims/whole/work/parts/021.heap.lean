/-! the heap's rows: fields, arrays, new cells, calls, ends -/
def ai (G : Gx) (n : Nat) (f : Nat → Int) : va_E := .inl (G.2.1 0, n, .inl (fun k => Int32.ofInt (f k)))
def al (G : Gx) (n : Nat) (f : Nat → Int) : va_E := .inl (G.2.1 1, n, .inr (.inl (fun k => Int64.ofInt (f k))))
def az (G : Gx) (n : Nat) (f : Nat → Int) : va_E := .inl (G.2.1 2, n, .inl (fun k => Int32.ofInt (f k)))
def aq (G : Gx) (n : Nat) (f : Nat → Option Nat) : va_E := .inl (G.2.1 3, n, .inr (.inr (.inr (.inr f))))
def ar (G : Gx) (n : Nat) (f : Nat → Option Nat) : va_E := .inl (G.2.1 4, n, .inr (.inr (.inr (.inr f))))
def ob (ci : Nat) (fs : List Value) : va_E := .inr (ci, fs)
def fu {α : Type} (f : Nat → α) (i : Nat) (x : α) : Nat → α := fun j => if j = i then x else f j
theorem fu_s {α : Type} {f : Nat → α} {i : Nat} {x : α} : fu f i x i = x := if_pos rfl
theorem fu_n {α : Type} {f : Nat → α} {i j : Nat} {x : α} (n : j ≠ i) : fu f i x j = f j := if_neg n
theorem Rp.one {G : Gx} {h : Hp} {H : Heap} (hR : Rp G h H) {a : Nat} {e : va_E} (ha : h a = some e) : va_P G.1 vwCl [(a, e)] H := by
  intro k q hk
  have hz : k < 1 := (List.getElem?_eq_some_iff.mp hk).1
  rw [show k = 0 by omega] at hk
  cases hk
  exact (hR a e ha).1
theorem Rp.set {G : Gx} {h : Hp} {H H1 : Heap} (hR : Rp G h H) {a : Nat} {e : va_E} (ha : gA G a) (he : va_at G.1 vwCl (a, e) H1) (oq : ∀ q : Nat, q ≠ a → H1[q]? = H[q]?) : Rp G (hup h a e) H1 := by
  intro b e' hb
  by_cases hq : b = a
  · subst hq
    rw [hup_s] at hb
    cases hb
    exact ⟨he, ha⟩
  · rw [hup_n hq] at hb
    obtain ⟨h1, h2⟩ := hR b e' hb
    exact ⟨h1.kept (oq b hq), h2⟩
theorem Rp.new {G : Gx} {h : Hp} {H H1 : Heap} (hR : Rp G h H) {a : Nat} {e : va_E} (hz : a = H.size) (ha : gA G a) (he : va_at G.1 vwCl (a, e) H1) (oq : ∀ q : Nat, q < H.size → H1[q]? = H[q]?) : Rp G (hup h a e) H1 := by
  intro b e' hb
  by_cases hq : b = a
  · subst hq
    rw [hup_s] at hb
    cases hb
    exact ⟨he, ha⟩
  · rw [hup_n hq] at hb
    obtain ⟨h1, h2⟩ := hR b e' hb
    exact ⟨h1.kept (oq b h1.lt), h2⟩
theorem Rp.lt {G : Gx} {h : Hp} {H : Heap} (hR : Rp G h H) {a : Nat} {e : va_E} (ha : h a = some e) : a < H.size := (hR a e ha).1.lt
section GH
variable {G : Gx} {X : Cx} {own nm : String} {cc : ByteArray} {nL lev MC MS : Nat} {ret : Option FieldType} {Q : State → Prop} {cells slots nx pc : Nat} {lv : List (Nat × Value)} {st : List Value} {h : Hp}
theorem g_get (k : Ok G X own nm cc nL ret lev MC MS) (ci kf : Nat) {C : String} {T : u_T} {N index a : Nat} {ref : String} {fs : List Value} {v : Value} (hf : Cond.fieldLink own index ref (T kf).2.1 (T kf).2.2.1 ∈ TB) (hc : vwCl[ci]? = some (C, T, N)) (hin : ∀ w ∈ u_ws C T N, w ∈ TB) (hk : kf < N) (hr2 : (T kf).1 = ref) (ho : h a = some (ob ci fs)) (hv : fs[kf]? = some v) (d : decode cc pc = .ok (.getfield index, 3)) (kk : Go G X nL Q cells slots nx (pc + 3) lv (v :: st) h) : Go G X nL Q cells slots nx pc lv (.ref a :: st) h := by
  obtain ⟨p, l, e, R, s, m, args, below, meth, c⟩ := X
  obtain ⟨hla, hx, hb, hml, hown, hts, hK, hr, hlocks, hB, hnm, hnw, hfr, hlo, hce, hsl⟩ := k
  intro H locs ls hR hz hS hl
  exact va_get hx hb hts hin hown hK (hR.one ho) 0 rfl hc kf hk (hts _ hf) (fun x hx => by rw [← hr2]; exact hx) hv d (kk H locs ls hR hz hS hl)
theorem g_put (k : Ok G X own nm cc nL ret lev MC MS) (ci kf : Nat) {fs2 : List Value} {C : String} {T : u_T} {N index a : Nat} {ref : String} {fs : List Value} {v : Value} {ty : FieldType} (hf : Cond.fieldLink own index ref (T kf).2.1 (T kf).2.2.1 ∈ TB) (hc : vwCl[ci]? = some (C, T, N)) (hin : ∀ w ∈ u_ws C T N, w ∈ TB) (ty0 : Nat → FieldType) (hty : ∀ k, k < N → parseFieldDescriptor (T k).2.2.1 = some (ty0 k)) (hnm2 : ∀ a, a < N → ∀ b, b < N → a ≠ b → (T a).2.1 ≠ (T b).2.1) (hk : kf < N) (hr2 : (T kf).1 = ref) (hd : ty0 kf = ty) (hn : narrow ty v = v) (hfit : fits ty v = true) (ho : h a = some (ob ci fs)) (hlt : kf < fs.length) (hs2 : fs.set kf v = fs2) (hfin : (T kf).2.2.2 = false) (d : decode cc pc = .ok (.putfield index, 3)) (kk : ∀ h2 : Hp, h2 = (hup h a (ob ci fs2)) → Go G X nL Q cells slots nx (pc + 3) lv st h2) : Go G X nL Q cells slots nx pc lv (v :: .ref a :: st) h := by
  obtain ⟨p, l, e, R, s, m, args, below, meth, c⟩ := X
  obtain ⟨hla, hx, hb, hml, hown, hts, hK, hr, hlocks, hB, hnm, hnw, hfr, hlo, hce, hsl⟩ := k
  intro H locs ls hR hz hS hl
  have he := (hR a _ ho).1
  have hap := va_apart (own := own) hts hin ty0 hty hnm2 hK hc
  obtain ⟨r, h1, cell, q1, q2, q3, q4⟩ := he
  have hrr : r = (C, T, N) := Option.some.inj (h1.symm.trans hc)
  subst hrr
  obtain ⟨hSl, hfc, kC, hkC, hkind⟩ := hK.1 ci _ hc
  obtain ⟨cf, kf2, fi, f, hi, hsl2⟩ := hSl kf hk
  have hlay := hts _ (hin _ (u_in_lay hk))
  unfold u_lay at hlay
  rw [if_neg (by rw [hfin]; decide)] at hlay
  have hst := (u_facts hfc hkC (u_lays hts hin hk) hi).1
  have h6 := u_store hfc hkC hkind hlay hi (by rw [hty kf hk, hd]) hn hfit
  refine W.putK hx hb (f := f) ⟨hown, hts _ hf, ⟨_, _, _, by rw [← hr2]; exact hi⟩, hst⟩ (by rw [q2]; exact h6) q1 q3 (by rw [hsl2]; exact k2_hasslot (q4 kf hk)) rfl rfl d fun H1 e1 e2 e3 => ?_
  rw [hsl2] at e1 ⊢
  subst hs2
  exact kk _ rfl H1 _ ls (hR.set (hR a _ ho).2 ⟨_, hc, t_OB.to (V := updV (vp_V fs) kf v) ⟨_, e1, q2, q3, t_set q4 hap hk v⟩ (fun j _ => vp_updV_set hlt v j)⟩ e3) (e2.trans hz) (hS.put e2 e3 (hR a _ ho).2) hl
theorem g_putF (k : Ok G X own nm cc nL ret lev MC MS) (ci kf : Nat) {fs2 : List Value} {C : String} {T : u_T} {N index a : Nat} {ref : String} {fs : List Value} {v : Value} {ty : FieldType} (hf : Cond.fieldLink own index ref (T kf).2.1 (T kf).2.2.1 ∈ TB) (hc : vwCl[ci]? = some (C, T, N)) (hin : ∀ w ∈ u_ws C T N, w ∈ TB) (ty0 : Nat → FieldType) (hty : ∀ k, k < N → parseFieldDescriptor (T k).2.2.1 = some (ty0 k)) (hnm2 : ∀ a, a < N → ∀ b, b < N → a ≠ b → (T a).2.1 ≠ (T b).2.1) (hk : kf < N) (hr2 : (T kf).1 = ref) (hd : ty0 kf = ty) (hn : narrow ty v = v) (hfit : fits ty v = true) (ho : h a = some (ob ci fs)) (hlt : kf < fs.length) (hs2 : fs.set kf v = fs2) (hfin : (T kf).2.2.2 = true) (hin2 : nm = "<init>") (hdecl : (T kf).1 = own) (d : decode cc pc = .ok (.putfield index, 3)) (kk : ∀ h2 : Hp, h2 = (hup h a (ob ci fs2)) → Go G X nL Q cells slots nx (pc + 3) lv st h2) : Go G X nL Q cells slots nx pc lv (v :: .ref a :: st) h := by
  obtain ⟨p, l, e, R, s, m, args, below, meth, c⟩ := X
  obtain ⟨hla, hx, hb, hml, hown, hts, hK, hr, hlocks, hB, hnm, hnw, hfr, hlo, hce, hsl⟩ := k
  intro H locs ls hR hz hS hl
  have he := (hR a _ ho).1
  have hap := va_apart (own := own) hts hin ty0 hty hnm2 hK hc
  obtain ⟨r, h1, cell, q1, q2, q3, q4⟩ := he
  have hrr : r = (C, T, N) := Option.some.inj (h1.symm.trans hc)
  subst hrr
  obtain ⟨hSl, hfc, kC, hkC, hkind⟩ := hK.1 ci _ hc
  obtain ⟨cf, kf2, fi, f, hi, hsl2⟩ := hSl kf hk
  have hlay := hts _ (hin _ (u_in_lay hk))
  unfold u_lay at hlay
  rw [if_pos hfin] at hlay
  have hst := (u_facts hfc hkC (u_lays hts hin hk) hi).1
  have hcf : m.cls = cf := by
    obtain ⟨_, _, c', _, _, _, -, -, hf', -, -, -, hown2, -⟩ := Cond.laysFinal_spec hlay
    have e1 : c' = cf := by have := hi.symm.trans hf'; simp at this; exact this.1.symm
    rw [hdecl] at hown2
    rw [← e1]; exact Option.some.inj (hown.symm.trans hown2)
  have h6 := u_fits hfc hkC hkind (Or.inr hlay) hi (by rw [hty kf hk, hd]) hn hfit
  refine W.putFinK hx hb hown (hts _ hf) (by rw [← hr2]; exact hi) hst hcf (hnm.trans hin2) (by rw [q2]; exact h6) q1 q3 (by rw [hsl2]; exact k2_hasslot (q4 kf hk)) rfl rfl d fun H1 e1 e2 e3 => ?_
  rw [hsl2] at e1 ⊢
  subst hs2
  exact kk _ rfl H1 _ ls (hR.set (hR a _ ho).2 ⟨_, hc, t_OB.to (V := updV (vp_V fs) kf v) ⟨_, e1, q2, q3, t_set q4 hap hk v⟩ (fun j _ => vp_updV_set hlt v j)⟩ e3) (e2.trans hz) (hS.put e2 e3 (hR a _ ho).2) hl
theorem g_iald (k : Ok G X own nm cc nL ret lev MC MS) {a n : Nat} {f : Nat → Int} {i : Int} (j : Nat) (ho : h a = some (ai G n f)) (hj : i = (j : Int)) (h1 : j < n) (hn : n < 2147483648) (d : decode cc pc = .ok (.iaload, 1)) (kk : Go G X nL Q cells slots nx (pc + 1) lv (vi (f j) :: st) h) : Go G X nL Q cells slots nx pc lv (vi i :: .ref a :: st) h := by
  obtain ⟨p, l, e, R, s, m, args, below, meth, c⟩ := X
  obtain ⟨hla, hx, hb, hml, hown, hts, hK, hr, hlocks, hB, hnm, hnw, hfr, hlo, hce, hsl⟩ := k
  intro H locs ls hR hz hS hl
  subst hj
  refine va_iald hx hb hK (hR.one ho) 0 0 rfl rfl (iIn (Int.natCast_nonneg j) (by omega) hn) d ?_
  have e := iN (a := (j : Int)) (by omega)
  rw [e, Int.toNat_natCast]
  exact kk H locs ls hR hz hS hl
theorem g_zald (k : Ok G X own nm cc nL ret lev MC MS) {a n : Nat} {f : Nat → Int} {i : Int} (j : Nat) (ho : h a = some (az G n f)) (hj : i = (j : Int)) (h1 : j < n) (hn : n < 2147483648) (d : decode cc pc = .ok (.baload, 1)) (kk : Go G X nL Q cells slots nx (pc + 1) lv (vi (f j) :: st) h) : Go G X nL Q cells slots nx pc lv (vi i :: .ref a :: st) h := by
  obtain ⟨p, l, e, R, s, m, args, below, meth, c⟩ := X
  obtain ⟨hla, hx, hb, hml, hown, hts, hK, hr, hlocks, hB, hnm, hnw, hfr, hlo, hce, hsl⟩ := k
  intro H locs ls hR hz hS hl
  subst hj
  refine va_zald hx hb hK (hR.one ho) 0 2 rfl rfl (iIn (Int.natCast_nonneg j) (by omega) hn) d ?_
  have e := iN (a := (j : Int)) (by omega)
  rw [e, Int.toNat_natCast]
  exact kk H locs ls hR hz hS hl
theorem g_lald (k : Ok G X own nm cc nL ret lev MC MS) {a n : Nat} {f : Nat → Int} {i : Int} (j : Nat) (ho : h a = some (al G n f)) (hj : i = (j : Int)) (h1 : j < n) (hn : n < 2147483648) (d : decode cc pc = .ok (.laload, 1)) (kk : Go G X nL Q cells slots nx (pc + 1) lv (vl (f j) :: st) h) : Go G X nL Q cells slots nx pc lv (vi i :: .ref a :: st) h := by
  obtain ⟨p, l, e, R, s, m, args, below, meth, c⟩ := X
  obtain ⟨hla, hx, hb, hml, hown, hts, hK, hr, hlocks, hB, hnm, hnw, hfr, hlo, hce, hsl⟩ := k
  intro H locs ls hR hz hS hl
  subst hj
  refine va_lald hx hb hK (hR.one ho) 0 1 rfl rfl (iIn (Int.natCast_nonneg j) (by omega) hn) d ?_
  have e := iN (a := (j : Int)) (by omega)
  rw [e, Int.toNat_natCast]
  exact kk H locs ls hR hz hS hl
theorem g_alen (k : Ok G X own nm cc nL ret lev MC MS) {a n : Nat} {f : Nat → Int} (ho : h a = some (ai G n f)) (d : decode cc pc = .ok (.arraylength, 1)) (kk : Go G X nL Q cells slots nx (pc + 1) lv (vi n :: st) h) : Go G X nL Q cells slots nx pc lv (.ref a :: st) h := by
  obtain ⟨p, l, e, R, s, m, args, below, meth, c⟩ := X
  obtain ⟨hla, hx, hb, hml, hown, hts, hK, hr, hlocks, hB, hnm, hnw, hfr, hlo, hce, hsl⟩ := k
  intro H locs ls hR hz hS hl
  exact va_alen (v := Int32.ofInt n) hx hb hK (hR.one ho) 0 0 rfl rfl rfl d (kk H locs ls hR hz hS hl)
theorem g_aldq (k : Ok G X own nm cc nL ret lev MC MS) {a n b : Nat} {f : Nat → Option Nat} {i : Int} (j : Nat) (ho : h a = some (aq G n f)) (hj : i = (j : Int)) (h1 : j < n) (hn : n < 2147483648) (hb2 : f j = some b) (d : decode cc pc = .ok (.aaload, 1)) (kk : Go G X nL Q cells slots nx (pc + 1) lv (.ref b :: st) h) : Go G X nL Q cells slots nx pc lv (vi i :: .ref a :: st) h := by
  obtain ⟨p, l, e, R, s, m, args, below, meth, c⟩ := X
  obtain ⟨hla, hx, hb, hml, hown, hts, hK, hr, hlocks, hB, hnm, hnw, hfr, hlo, hce, hsl⟩ := k
  intro H locs ls hR hz hS hl
  subst hj
  refine va_aldq hx hb hK (hR.one ho) 0 3 (C := RX0) rfl rfl (iIn (Int.natCast_nonneg j) (by omega) hn) d ?_
  have e := iN (a := (j : Int)) (by omega)
  rw [e, Int.toNat_natCast, hb2]
  exact kk H locs ls hR hz hS hl
theorem g_aldr (k : Ok G X own nm cc nL ret lev MC MS) {a n b : Nat} {f : Nat → Option Nat} {i : Int} (j : Nat) (ho : h a = some (ar G n f)) (hj : i = (j : Int)) (h1 : j < n) (hn : n < 2147483648) (hb2 : f j = some b) (d : decode cc pc = .ok (.aaload, 1)) (kk : Go G X nL Q cells slots nx (pc + 1) lv (.ref b :: st) h) : Go G X nL Q cells slots nx pc lv (vi i :: .ref a :: st) h := by
  obtain ⟨p, l, e, R, s, m, args, below, meth, c⟩ := X
  obtain ⟨hla, hx, hb, hml, hown, hts, hK, hr, hlocks, hB, hnm, hnw, hfr, hlo, hce, hsl⟩ := k
  intro H locs ls hR hz hS hl
  subst hj
  refine va_aldq hx hb hK (hR.one ho) 0 4 (C := RX3) rfl rfl (iIn (Int.natCast_nonneg j) (by omega) hn) d ?_
  have e := iN (a := (j : Int)) (by omega)
  rw [e, Int.toNat_natCast, hb2]
  exact kk H locs ls hR hz hS hl
theorem g_iast (k : Ok G X own nm cc nL ret lev MC MS) {a n : Nat} {f : Nat → Int} {i x : Int} (j : Nat)  (ho : h a = some (ai G n f)) (hj : i = (j : Int)) (h1 : j < n) (hn : n < 2147483648) (d : decode cc pc = .ok (.iastore, 1)) (kk : ∀ h2 : Hp, h2 = (hup h a (ai G n (fu f j x))) → Go G X nL Q cells slots nx (pc + 1) lv st h2) : Go G X nL Q cells slots nx pc lv (vi x :: vi i :: .ref a :: st) h := by
  obtain ⟨p, l, e, R, s, m, args, below, meth, c⟩ := X
  obtain ⟨hla, hx, hb, hml, hown, hts, hK, hr, hlocks, hB, hnm, hnw, hfr, hlo, hce, hsl⟩ := k
  intro H locs ls hR hz hS hl
  subst hj
  have h0 : (0 : Int) ≤ (j : Int) := Int.natCast_nonneg j
  have h2 : (j : Int) < (n : Int) := by omega
  have hcell := (hR a _ ho).1
  refine W.iast hx hb hcell ((hK.2 0 _ rfl).1 n (fun j => .int (Int32.ofInt (f j)))) (fun q => by cases q) (by show ¬ (_ < 0 ∨ (arrV _ _ _).slots.size ≤ _); rw [arrV_size]; exact iIn h0 h2 hn) rfl rfl d fun H1 e z oq => ?_
  refine kk _ rfl H1 _ ls (hR.set (hR a _ ho).2 ?_ oq) (z.trans hz) (hS.put z oq (hR a _ ho).2) hl
  show H1[a]? = some (vp_cell _ _)
  rw [e]
  dsimp only
  rw [vp_cell_i, vp_cell_i, arrV_store, iN (a := (j : Int)) (by omega), Int.toNat_natCast]
  congr 2
  funext q
  by_cases hq : q = j
  · subst hq
    simp [updV, fu]
  · simp [updV, fu, hq]
theorem g_last (k : Ok G X own nm cc nL ret lev MC MS) {a n : Nat} {f : Nat → Int} {i x : Int} (j : Nat)  (ho : h a = some (al G n f)) (hj : i = (j : Int)) (h1 : j < n) (hn : n < 2147483648) (d : decode cc pc = .ok (.lastore, 1)) (kk : ∀ h2 : Hp, h2 = (hup h a (al G n (fu f j x))) → Go G X nL Q cells slots nx (pc + 1) lv st h2) : Go G X nL Q cells slots nx pc lv (vl x :: vi i :: .ref a :: st) h := by
  obtain ⟨p, l, e, R, s, m, args, below, meth, c⟩ := X
  obtain ⟨hla, hx, hb, hml, hown, hts, hK, hr, hlocks, hB, hnm, hnw, hfr, hlo, hce, hsl⟩ := k
  intro H locs ls hR hz hS hl
  subst hj
  have h0 : (0 : Int) ≤ (j : Int) := Int.natCast_nonneg j
  have h2 : (j : Int) < (n : Int) := by omega
  have hcell := (hR a _ ho).1
  refine W.last hx hb hcell ((hK.2 1 _ rfl).1 n (fun j => .long (Int64.ofInt (f j)))) (fun q => by cases q) (by show ¬ (_ < 0 ∨ (arrV _ _ _).slots.size ≤ _); rw [arrV_size]; exact iIn h0 h2 hn) rfl rfl d fun H1 e z oq => ?_
  refine kk _ rfl H1 _ ls (hR.set (hR a _ ho).2 ?_ oq) (z.trans hz) (hS.put z oq (hR a _ ho).2) hl
  show H1[a]? = some (vp_cell _ _)
  rw [e]
  dsimp only
  rw [vp_cell_l, vp_cell_l, arrV_store, iN (a := (j : Int)) (by omega), Int.toNat_natCast]
  congr 2
  funext q
  by_cases hq : q = j
  · subst hq
    simp [updV, fu]
  · simp [updV, fu, hq]
theorem g_zast (k : Ok G X own nm cc nL ret lev MC MS) {a n : Nat} {f : Nat → Int} {i x : Int} (j : Nat) (hx2 : x = 0 ∨ x = 1) (ho : h a = some (az G n f)) (hj : i = (j : Int)) (h1 : j < n) (hn : n < 2147483648) (d : decode cc pc = .ok (.bastore, 1)) (kk : ∀ h2 : Hp, h2 = (hup h a (az G n (fu f j x))) → Go G X nL Q cells slots nx (pc + 1) lv st h2) : Go G X nL Q cells slots nx pc lv (vi x :: vi i :: .ref a :: st) h := by
  obtain ⟨p, l, e, R, s, m, args, below, meth, c⟩ := X
  obtain ⟨hla, hx, hb, hml, hown, hts, hK, hr, hlocks, hB, hnm, hnw, hfr, hlo, hce, hsl⟩ := k
  intro H locs ls hR hz hS hl
  subst hj
  have h0 : (0 : Int) ≤ (j : Int) := Int.natCast_nonneg j
  have h2 : (j : Int) < (n : Int) := by omega
  have hcell := (hR a _ ho).1
  refine W.zast hx hb hcell ((hK.2 2 _ rfl).1 n (fun j => .int (Int32.ofInt (f j)))) (fun q => by cases q) (by show ¬ (_ < 0 ∨ (arrV _ _ _).slots.size ≤ _); rw [arrV_size]; exact iIn h0 h2 hn) rfl rfl d fun H1 e z oq => ?_
  refine kk _ rfl H1 _ ls (hR.set (hR a _ ho).2 ?_ oq) (z.trans hz) (hS.put z oq (hR a _ ho).2) hl
  show H1[a]? = some (vp_cell _ _)
  rw [e, show narrow .boolean (.int (Int32.ofInt x)) = .int (Int32.ofInt x) by rcases hx2 with rfl | rfl <;> rfl]
  dsimp only
  rw [vp_cell_i, vp_cell_i, arrV_store, iN (a := (j : Int)) (by omega), Int.toNat_natCast]
  congr 2
  funext q
  by_cases hq : q = j
  · subst hq
    simp [updV, fu]
  · simp [updV, fu, hq]
theorem g_astq (k : Ok G X own nm cc nL ret lev MC MS) {a n v : Nat} {f : Nat → Option Nat} {i : Int} {vs : List Value} (j : Nat) (ho : h a = some (aq G n f)) (hv : h v = some (ob 0 vs)) (hj : i = (j : Int)) (h1 : j < n) (hn : n < 2147483648) (d : decode cc pc = .ok (.aastore, 1)) (kk : ∀ h2 : Hp, h2 = (hup h a (aq G n (fu f j (some v)))) → Go G X nL Q cells slots nx (pc + 1) lv st h2) : Go G X nL Q cells slots nx pc lv (.ref v :: vi i :: .ref a :: st) h := by
  obtain ⟨p, l, e, R, s, m, args, below, meth, c⟩ := X
  obtain ⟨hla, hx, hb, hml, hown, hts, hK, hr, hlocks, hB, hnm, hnw, hfr, hlo, hce, hsl⟩ := k
  intro H locs ls hR hz hS hl
  subst hj
  have hcell := (hR a _ ho).1
  have hin := iIn (Int.natCast_nonneg j) (show (j : Int) < (n : Int) by omega) hn
  obtain ⟨r', hr', cellV, g1, g2, g3, -⟩ := (hR v _ hv).1
  have hcls := (hK.1 0 (RX0, TX0, 5) rfl).2
  obtain ⟨kA, comp, k1, k2, k3, -⟩ := (hK.2 3 (G.2.1 3, .object RX0) rfl).2
  have hcomp : comp = G.1.1 0 := Option.some.inj (k3.symm.trans hcls.1)
  subst hcomp
  obtain ⟨kC, hkC, -⟩ := hcls.2
  refine W.aast hx hb hcell (fun q h => by cases h) (fun h => by cases h) k1 k2 rfl hkC ⟨fun q => hin (Or.inl q), by show _ < (arrV _ _ _).slots.size; rw [arrV_size]; exact Nat.not_le.mp fun q => hin (Or.inr q)⟩ g1 (fun q h => by rw [g3] at h; cases h) (by rw [g2]; exact hkC) (by rw [g2]; exact va_assign hcls) rfl rfl d fun H1 e z oq => ?_
  refine kk _ rfl H1 _ ls (hR.set (hR a _ ho).2 ?_ oq) (z.trans hz) (hS.put z oq (hR a _ ho).2) hl
  show H1[a]? = some (vp_cell _ _)
  rw [e]
  dsimp only
  rw [vp_cell_q, vp_cell_q, arrV_store, iN (a := (j : Int)) (by omega), Int.toNat_natCast]
  congr 2
  funext q
  by_cases hq : q = j
  · subst hq
    simp [updV, fu, va_rf]
  · simp [updV, fu, hq]
theorem g_astr (k : Ok G X own nm cc nL ret lev MC MS) {a n v : Nat} {f : Nat → Option Nat} {i : Int} {vs : List Value} (j : Nat) (ho : h a = some (ar G n f)) (hv : h v = some (ob 3 vs)) (hj : i = (j : Int)) (h1 : j < n) (hn : n < 2147483648) (d : decode cc pc = .ok (.aastore, 1)) (kk : ∀ h2 : Hp, h2 = (hup h a (ar G n (fu f j (some v)))) → Go G X nL Q cells slots nx (pc + 1) lv st h2) : Go G X nL Q cells slots nx pc lv (.ref v :: vi i :: .ref a :: st) h := by
  obtain ⟨p, l, e, R, s, m, args, below, meth, c⟩ := X
  obtain ⟨hla, hx, hb, hml, hown, hts, hK, hr, hlocks, hB, hnm, hnw, hfr, hlo, hce, hsl⟩ := k
  intro H locs ls hR hz hS hl
  subst hj
  have hcell := (hR a _ ho).1
  have hin := iIn (Int.natCast_nonneg j) (show (j : Int) < (n : Int) by omega) hn
  obtain ⟨r', hr', cellV, g1, g2, g3, -⟩ := (hR v _ hv).1
  have hcls := (hK.1 3 (RX3, TX3, 2) rfl).2
  obtain ⟨kA, comp, k1, k2, k3, -⟩ := (hK.2 4 (G.2.1 4, .object RX3) rfl).2
  have hcomp : comp = G.1.1 3 := Option.some.inj (k3.symm.trans hcls.1)
  subst hcomp
  obtain ⟨kC, hkC, -⟩ := hcls.2
  refine W.aast hx hb hcell (fun q h => by cases h) (fun h => by cases h) k1 k2 rfl hkC ⟨fun q => hin (Or.inl q), by show _ < (arrV _ _ _).slots.size; rw [arrV_size]; exact Nat.not_le.mp fun q => hin (Or.inr q)⟩ g1 (fun q h => by rw [g3] at h; cases h) (by rw [g2]; exact hkC) (by rw [g2]; exact va_assign hcls) rfl rfl d fun H1 e z oq => ?_
  refine kk _ rfl H1 _ ls (hR.set (hR a _ ho).2 ?_ oq) (z.trans hz) (hS.put z oq (hR a _ ho).2) hl
  show H1[a]? = some (vp_cell _ _)
  rw [e]
  dsimp only
  rw [vp_cell_q, vp_cell_q, arrV_store, iN (a := (j : Int)) (by omega), Int.toNat_natCast]
  congr 2
  funext q
  by_cases hq : q = j
  · subst hq
    simp [updV, fu, va_rf]
  · simp [updV, fu, hq]
theorem g_newi (k : Ok G X own nm cc nL ret lev MC MS) {n : Nat} (hn : n < 2147483648) (hbt : n * 8 ≤ 536870912) (hac : Cond.arrayClass .int ∈ TB) (hce2 : cells + 1 ≤ MC) (hsl2 : slots + n ≤ MS) (d : decode cc pc = .ok (.newarray .int, 2)) (kk : ∀ h2 : Hp, h2 = (hup h nx (ai G n (fun _ => 0))) → Go G X nL Q (cells + 1) (slots + n) (nx + 1) (pc + 2) lv (.ref nx :: st) h2) : Go G X nL Q cells slots nx pc lv (vi n :: st) h := by
  obtain ⟨p, l, e, R, s, m, args, below, meth, c⟩ := X
  obtain ⟨hla, hx, hb, hml, hown, hts, hK, hr, hlocks, hB, hnm, hnw, hfr, hlo, hce, hsl⟩ := k
  intro H locs ls hR hz hS hl
  have hB2 : gA G nx := by unfold gA; have := hS.1; omega
  refine va_newaK (atype := .int) (N := n) hx hb (hts _ hac) rfl d rfl (fun q => by have := (iLt (a := (n : Int)) (b := 0) (by omega) (by omega)).mp q; omega) (by rw [iN (by omega)]; rfl) (Nat.le_trans (Nat.mul_le_mul_left n (show componentBytes .int ≤ 8 by decide)) hbt) (by omega) (by omega) hz fun H1 cA e1 z1 o1 hAr hNm => ?_
  have hcA : cA = G.2.1 0 := Option.some.inj (hNm.symm.trans (hK.2 0 _ rfl).2)
  subst hcA
  exact kk _ rfl H1 locs ls (hR.new hz.symm hB2 (show H1[nx]? = some (vp_cell _ _) by rw [e1]; rfl) (fun q hq => o1 q (by omega))) z1 ⟨by have := hS.1; omega, fun q h1 h2 => (o1 q (by have := hS.1; omega)).trans (hS.2.1 q h1 h2), hS.2.2⟩ hl
theorem g_newl (k : Ok G X own nm cc nL ret lev MC MS) {n : Nat} (hn : n < 2147483648) (hbt : n * 8 ≤ 536870912) (hac : Cond.arrayClass .long ∈ TB) (hce2 : cells + 1 ≤ MC) (hsl2 : slots + n ≤ MS) (d : decode cc pc = .ok (.newarray .long, 2)) (kk : ∀ h2 : Hp, h2 = (hup h nx (al G n (fun _ => 0))) → Go G X nL Q (cells + 1) (slots + n) (nx + 1) (pc + 2) lv (.ref nx :: st) h2) : Go G X nL Q cells slots nx pc lv (vi n :: st) h := by
  obtain ⟨p, l, e, R, s, m, args, below, meth, c⟩ := X
  obtain ⟨hla, hx, hb, hml, hown, hts, hK, hr, hlocks, hB, hnm, hnw, hfr, hlo, hce, hsl⟩ := k
  intro H locs ls hR hz hS hl
  have hB2 : gA G nx := by unfold gA; have := hS.1; omega
  refine va_newaK (atype := .long) (N := n) hx hb (hts _ hac) rfl d rfl (fun q => by have := (iLt (a := (n : Int)) (b := 0) (by omega) (by omega)).mp q; omega) (by rw [iN (by omega)]; rfl) (Nat.le_trans (Nat.mul_le_mul_left n (show componentBytes .long ≤ 8 by decide)) hbt) (by omega) (by omega) hz fun H1 cA e1 z1 o1 hAr hNm => ?_
  have hcA : cA = G.2.1 1 := Option.some.inj (hNm.symm.trans (hK.2 1 _ rfl).2)
  subst hcA
  exact kk _ rfl H1 locs ls (hR.new hz.symm hB2 (show H1[nx]? = some (vp_cell _ _) by rw [e1]; rfl) (fun q hq => o1 q (by omega))) z1 ⟨by have := hS.1; omega, fun q h1 h2 => (o1 q (by have := hS.1; omega)).trans (hS.2.1 q h1 h2), hS.2.2⟩ hl
theorem g_newz (k : Ok G X own nm cc nL ret lev MC MS) {n : Nat} (hn : n < 2147483648) (hbt : n * 8 ≤ 536870912) (hac : Cond.arrayClass .boolean ∈ TB) (hce2 : cells + 1 ≤ MC) (hsl2 : slots + n ≤ MS) (d : decode cc pc = .ok (.newarray .boolean, 2)) (kk : ∀ h2 : Hp, h2 = (hup h nx (az G n (fun _ => 0))) → Go G X nL Q (cells + 1) (slots + n) (nx + 1) (pc + 2) lv (.ref nx :: st) h2) : Go G X nL Q cells slots nx pc lv (vi n :: st) h := by
  obtain ⟨p, l, e, R, s, m, args, below, meth, c⟩ := X
  obtain ⟨hla, hx, hb, hml, hown, hts, hK, hr, hlocks, hB, hnm, hnw, hfr, hlo, hce, hsl⟩ := k
  intro H locs ls hR hz hS hl
  have hB2 : gA G nx := by unfold gA; have := hS.1; omega
  refine va_newaK (atype := .boolean) (N := n) hx hb (hts _ hac) rfl d rfl (fun q => by have := (iLt (a := (n : Int)) (b := 0) (by omega) (by omega)).mp q; omega) (by rw [iN (by omega)]; rfl) (Nat.le_trans (Nat.mul_le_mul_left n (show componentBytes .boolean ≤ 8 by decide)) hbt) (by omega) (by omega) hz fun H1 cA e1 z1 o1 hAr hNm => ?_
  have hcA : cA = G.2.1 2 := Option.some.inj (hNm.symm.trans (hK.2 2 _ rfl).2)
  subst hcA
  exact kk _ rfl H1 locs ls (hR.new hz.symm hB2 (show H1[nx]? = some (vp_cell _ _) by rw [e1]; rfl) (fun q hq => o1 q (by omega))) z1 ⟨by have := hS.1; omega, fun q h1 h2 => (o1 q (by have := hS.1; omega)).trans (hS.2.1 q h1 h2), hS.2.2⟩ hl
theorem g_newq (k : Ok G X own nm cc nL ret lev MC MS) {n index : Nat} (hn : n < 2147483648) (hbt : n * 8 ≤ 536870912) (hcl : Cond.classLink own index RX0 ∈ TB) (hce2 : cells + 1 ≤ MC) (hsl2 : slots + n ≤ MS) (d : decode cc pc = .ok (.anewarray index, 3)) (kk : ∀ h2 : Hp, h2 = (hup h nx (aq G n (fun _ => none))) → Go G X nL Q (cells + 1) (slots + n) (nx + 1) (pc + 3) lv (.ref nx :: st) h2) : Go G X nL Q cells slots nx pc lv (vi n :: st) h := by
  obtain ⟨p, l, e, R, s, m, args, below, meth, c⟩ := X
  obtain ⟨hla, hx, hb, hml, hown, hts, hK, hr, hlocks, hB, hnm, hnw, hfr, hlo, hce, hsl⟩ := k
  intro H locs ls hR hz hS hl
  have hB2 : gA G nx := by unfold gA; have := hS.1; omega
  have eN : (Int32.ofInt (n : Int)).toNatClampNeg = n := by rw [iN (by omega)]; rfl
  refine W.anew hx hb hown (hts _ hcl) (va_AO.use hnw.2.1) rfl d rfl (fun q => by have := (iLt (a := (n : Int)) (b := 0) (by omega) (by omega)).mp q; omega) (by rw [eN]; omega) (by omega) (by rw [eN]; omega) fun cA kA comp f1 f2 f3 f4 => ?_
  rw [eN]
  obtain ⟨-, -, -, -, -, hf⟩ := (hK.2 3 (G.2.1 3, .object RX0) rfl).2
  have hcA : cA = G.2.1 3 := Option.some.inj (f1.symm.trans hf)
  subst hcA
  generalize hH1 : H.push ({ cls := G.2.1 3, slots := Array.replicate n .null, vm := .none } : Cell) = H1
  have z1 : H1.size = nx + 1 := by rw [← hH1, Array.size_push, hz]
  have e1 : H1[H.size]? = some (arrV (G.2.1 3) n (fun _ => .null)) := by rw [← hH1, Array.getElem?_push_size, ← arrV_new]
  have o1 : ∀ q : Nat, q < H.size → H1[q]? = H[q]? := fun q hq => by rw [← hH1, Array.getElem?_push_lt hq, Array.getElem?_eq_getElem hq]
  rw [hz]
  exact kk _ rfl H1 locs ls (hR.new hz.symm hB2 (show H1[nx]? = some (vp_cell _ _) by rw [← hz, e1]; rfl) o1) z1 ⟨by have := hS.1; omega, fun q h1 h2 => (o1 q (by have := hS.1; omega)).trans (hS.2.1 q h1 h2), hS.2.2⟩ hl
theorem g_newr (k : Ok G X own nm cc nL ret lev MC MS) {n index : Nat} (hn : n < 2147483648) (hbt : n * 8 ≤ 536870912) (hcl : Cond.classLink own index RX3 ∈ TB) (hce2 : cells + 1 ≤ MC) (hsl2 : slots + n ≤ MS) (d : decode cc pc = .ok (.anewarray index, 3)) (kk : ∀ h2 : Hp, h2 = (hup h nx (ar G n (fun _ => none))) → Go G X nL Q (cells + 1) (slots + n) (nx + 1) (pc + 3) lv (.ref nx :: st) h2) : Go G X nL Q cells slots nx pc lv (vi n :: st) h := by
  obtain ⟨p, l, e, R, s, m, args, below, meth, c⟩ := X
  obtain ⟨hla, hx, hb, hml, hown, hts, hK, hr, hlocks, hB, hnm, hnw, hfr, hlo, hce, hsl⟩ := k
  intro H locs ls hR hz hS hl
  have hB2 : gA G nx := by unfold gA; have := hS.1; omega
  have eN : (Int32.ofInt (n : Int)).toNatClampNeg = n := by rw [iN (by omega)]; rfl
  refine W.anew hx hb hown (hts _ hcl) (va_AO.use hnw.2.2) rfl d rfl (fun q => by have := (iLt (a := (n : Int)) (b := 0) (by omega) (by omega)).mp q; omega) (by rw [eN]; omega) (by omega) (by rw [eN]; omega) fun cA kA comp f1 f2 f3 f4 => ?_
  rw [eN]
  obtain ⟨-, -, -, -, -, hf⟩ := (hK.2 4 (G.2.1 4, .object RX3) rfl).2
  have hcA : cA = G.2.1 4 := Option.some.inj (f1.symm.trans hf)
  subst hcA
  generalize hH1 : H.push ({ cls := G.2.1 4, slots := Array.replicate n .null, vm := .none } : Cell) = H1
  have z1 : H1.size = nx + 1 := by rw [← hH1, Array.size_push, hz]
  have e1 : H1[H.size]? = some (arrV (G.2.1 4) n (fun _ => .null)) := by rw [← hH1, Array.getElem?_push_size, ← arrV_new]
  have o1 : ∀ q : Nat, q < H.size → H1[q]? = H[q]? := fun q hq => by rw [← hH1, Array.getElem?_push_lt hq, Array.getElem?_eq_getElem hq]
  rw [hz]
  exact kk _ rfl H1 locs ls (hR.new hz.symm hB2 (show H1[nx]? = some (vp_cell _ _) by rw [← hz, e1]; rfl) o1) z1 ⟨by have := hS.1; omega, fun q h1 h2 => (o1 q (by have := hS.1; omega)).trans (hS.2.1 q h1 h2), hS.2.2⟩ hl
theorem g_new (k : Ok G X own nm cc nL ret lev MC MS) (ci : Nat) {C : String} {T : u_T} {N index : Nat} {fs : List Value} (hcl : Cond.classLink own index C ∈ TB) (hins : Cond.instantiable C N ∈ TB) (hini : Cond.initialized C ∈ TB) (hc : vwCl[ci]? = some (C, T, N)) (hin : ∀ w ∈ u_ws C T N, w ∈ TB) (ty0 : Nat → FieldType) (hty : ∀ k, k < N → parseFieldDescriptor (T k).2.2.1 = some (ty0 k)) (hfs : ∀ j, j < N → defaultValue (ty0 j) = vp_V fs j) (hce2 : cells + 1 ≤ MC) (hsl2 : slots + N ≤ MS) (d : decode cc pc = .ok (.new index, 3)) (kk : ∀ h2 : Hp, h2 = (hup h nx (ob ci fs)) → Go G X nL Q (cells + 1) (slots + N) (nx + 1) (pc + 3) lv (.ref nx :: st) h2) : Go G X nL Q cells slots nx pc lv st h := by
  obtain ⟨p, l, e, R, s, m, args, below, meth, c⟩ := X
  obtain ⟨hla, hx, hb, hml, hown, hts, hK, hr, hlocks, hB, hnm, hnw, hfr, hlo, hce, hsl⟩ := k
  intro H locs ls hR hz hS hl
  have hB2 : gA G nx := by unfold gA; have := hS.1; omega
  have hKn := hK.1 ci _ hc
  refine W.newcK hx hb hown (hts _ hcl) (hts _ hins) (hts _ hini) rfl d (by omega) (by omega) hKn.2.1 hz fun H1 kC hkC e1 z1 o1 => ?_
  exact kk _ rfl H1 locs ls (hR.new hz.symm hB2 ⟨_, hc, (u_born ty0 hts hin hKn hkC e1 hty).to hfs⟩ (fun q hq => o1 q (by omega))) z1 ⟨by have := hS.1; omega, fun q h1 h2 => (o1 q (by have := hS.1; omega)).trans (hS.2.1 q h1 h2), hS.2.2⟩ hl
theorem g_objInit (k : Ok G X own nm cc nL ret lev MC MS) {index a : Nat} (hml2 : Cond.methodLink own index objectInit ∈ TB) (hlev : 1 ≤ lev) (hW : (st.map fun v => v.category).sum ≤ 8) (d : decode cc pc = .ok (.invokespecial index, 3)) (kk : Go G X nL Q cells slots nx (pc + 3) lv st h) : Go G X nL Q cells slots nx pc lv (.ref a :: st) h := by
  obtain ⟨p, l, e, R, s, m, args, below, meth, c⟩ := X
  obtain ⟨hla, hx, hb, hml, hown, hts, hK, hr, hlocks, hB, hnm, hnw, hfr, hlo, hce, hsl⟩ := k
  intro H locs ls hR hz hS hl
  exact W.objInit hx hb hown (hts _ hml2) (hts _ im_objectInit) (hts _ cd_objectInit) rfl (hl.1.trans hml.symm) rfl d (by omega) (by show 2 * 0 + _ + 12 ≤ _; omega) (kk H locs ls hR hz hS hl)
theorem g_max (k : Ok G X own nm cc nL ret lev MC MS) {index : Nat} {a b : Int} (ra : -2147483648 ≤ a ∧ a ≤ 2147483647) (rb : -2147483648 ≤ b ∧ b ≤ 2147483647) (hml2 : Cond.methodLink own index Lib.Math.max.name ∈ TB) (hst2 : Cond.static Lib.Math.max.name ∈ TB) (hcd : Cond.code Lib.Math.max.name Lib.Math.max.code 2 (some .int) ∈ TB) (hlev : 1 ≤ lev) (hcc : cells ≤ MC ∧ slots ≤ MS) (hW : (st.map fun v => v.category).sum ≤ 8) (d : decode cc pc = .ok (.invokestatic index, 3)) (kk : Go G X nL Q cells slots nx (pc + 3) lv (vi (if a < b then b else a) :: st) h) : Go G X nL Q cells slots nx pc lv (vi b :: vi a :: st) h := by
  obtain ⟨p, l, e, R, s, m, args, below, meth, c⟩ := X
  obtain ⟨hla, hx, hb, hml, hown, hts, hK, hr, hlocks, hB, hnm, hnw, hfr, hlo, hce, hsl⟩ := k
  intro H locs ls hR hz hS hl
  refine va_mmax hx hb (hml.trans hl.1.symm) hown (hts _ hml2) (hts _ hst2) (hts _ ini_J9) (hts _ hcd) (by omega) (by omega) (by omega) (by omega) d ?_
  have kk := kk H locs ls hR hz hS hl
  by_cases hq : a < b
  · rw [if_pos hq] at kk
    rw [if_pos ((iLt ra rb).mpr hq)]
    exact kk
  · rw [if_neg hq] at kk
    rw [if_neg (fun z => hq ((iLt ra rb).mp z))]
    exact kk
theorem g_min (k : Ok G X own nm cc nL ret lev MC MS) {index : Nat} {a b : Int} (ra : -2147483648 ≤ a ∧ a ≤ 2147483647) (rb : -2147483648 ≤ b ∧ b ≤ 2147483647) (hml2 : Cond.methodLink own index Lib.Math.min.name ∈ TB) (hst2 : Cond.static Lib.Math.min.name ∈ TB) (hcd : Cond.code Lib.Math.min.name Lib.Math.min.code 2 (some .int) ∈ TB) (hlev : 1 ≤ lev) (hcc : cells ≤ MC ∧ slots ≤ MS) (hW : (st.map fun v => v.category).sum ≤ 8) (d : decode cc pc = .ok (.invokestatic index, 3)) (kk : Go G X nL Q cells slots nx (pc + 3) lv (vi (if b < a then b else a) :: st) h) : Go G X nL Q cells slots nx pc lv (vi b :: vi a :: st) h := by
  obtain ⟨p, l, e, R, s, m, args, below, meth, c⟩ := X
  obtain ⟨hla, hx, hb, hml, hown, hts, hK, hr, hlocks, hB, hnm, hnw, hfr, hlo, hce, hsl⟩ := k
  intro H locs ls hR hz hS hl
  refine va_mmin hx hb (hml.trans hl.1.symm) hown (hts _ hml2) (hts _ hst2) (hts _ ini_J9) (hts _ hcd) (by omega) (by omega) (by omega) (by omega) d ?_
  have kk := kk H locs ls hR hz hS hl
  by_cases hq : b < a
  · rw [if_pos hq] at kk
    rw [if_pos ((iLt rb ra).mpr hq)]
    exact kk
  · rw [if_neg hq] at kk
    rw [if_neg (fun z => hq ((iLt rb ra).mp z))]
    exact kk
theorem g_abs (k : Ok G X own nm cc nL ret lev MC MS) {index : Nat} {a : Int} (ra : -2147483648 ≤ a ∧ a ≤ 2147483647) (hml2 : Cond.methodLink own index Lib.Math.abs.name ∈ TB) (hst2 : Cond.static Lib.Math.abs.name ∈ TB) (hcd : Cond.code Lib.Math.abs.name Lib.Math.abs.code 1 (some .int) ∈ TB) (hlev : 1 ≤ lev) (hcc : cells ≤ MC ∧ slots ≤ MS) (hW : (st.map fun v => v.category).sum ≤ 8) (d : decode cc pc = .ok (.invokestatic index, 3)) (kk : Go G X nL Q cells slots nx (pc + 3) lv (vi (if 0 ≤ a then a else -a) :: st) h) : Go G X nL Q cells slots nx pc lv (vi a :: st) h := by
  obtain ⟨p, l, e, R, s, m, args, below, meth, c⟩ := X
  obtain ⟨hla, hx, hb, hml, hown, hts, hK, hr, hlocks, hB, hnm, hnw, hfr, hlo, hce, hsl⟩ := k
  intro H locs ls hR hz hS hl
  refine va_mabs hx hb (hml.trans hl.1.symm) hown (hts _ hml2) (hts _ hst2) (hts _ ini_J9) (hts _ hcd) (by omega) (by omega) (by omega) (by omega) d ?_
  have kk := kk H locs ls hR hz hS hl
  by_cases hq : 0 ≤ a
  · rw [if_pos hq] at kk
    rw [if_pos (show (0 : Int32) ≤ Int32.ofInt a from (iLe (a := 0) (by omega) ra).mpr hq)]
    exact kk
  · rw [if_neg hq] at kk
    rw [if_neg (show ¬ (0 : Int32) ≤ Int32.ofInt a from fun z => hq ((iLe (a := 0) (by omega) ra).mp z))]
    unfold vi at kk
    rw [show Int32.ofInt (-a) = 0 - Int32.ofInt a by rw [Int32.ofInt_neg]; simp] at kk
    exact kk
theorem g_iret (k : Ok G X own nm cc nL (some .int) lev MC MS) {nx0 : Nat} {Post : Option Value → Hp → Prop} {z : Int}  (hnx : nx = nx0 + cells) (hp : Post (some (vi z)) h) (d : decode cc pc = .ok (.ireturn, 1)) : Go G X nL (QM G X nx0 cells slots Post) cells slots nx pc lv [vi z] h := by
  obtain ⟨p, l, e, R, s, m, args, below, meth, c⟩ := X
  obtain ⟨hla, hx, hb, hml, hown, hts, hK, hr, hlocks, hB, hnm, hnw, hfr, hlo, hce, hsl⟩ := k
  intro H locs ls hR hz hS hl
  exact W.iret (v := Int32.ofInt z) hx hb hr (fun t ht hW => ⟨_, h, rfl, hp, by rw [ht]; exact hR, by rw [ht, hz, hnx], hS.F ht⟩) hS.2.2 d hlocks
theorem g_lret (k : Ok G X own nm cc nL (some .long) lev MC MS) {nx0 : Nat} {Post : Option Value → Hp → Prop} {z : Int}  (hnx : nx = nx0 + cells) (hp : Post (some (vl z)) h) (d : decode cc pc = .ok (.lreturn, 1)) : Go G X nL (QM G X nx0 cells slots Post) cells slots nx pc lv [vl z] h := by
  obtain ⟨p, l, e, R, s, m, args, below, meth, c⟩ := X
  obtain ⟨hla, hx, hb, hml, hown, hts, hK, hr, hlocks, hB, hnm, hnw, hfr, hlo, hce, hsl⟩ := k
  intro H locs ls hR hz hS hl
  exact W.lret (v := Int64.ofInt z) hx hb hr (fun t ht hW => ⟨_, h, rfl, hp, by rw [ht]; exact hR, by rw [ht, hz, hnx], hS.F ht⟩) hS.2.2 d hlocks
theorem g_zret (k : Ok G X own nm cc nL (some .boolean) lev MC MS) {nx0 : Nat} {Post : Option Value → Hp → Prop} {z : Int} (hz1 : z = 0 ∨ z = 1) (hnx : nx = nx0 + cells) (hp : Post (some (vi z)) h) (d : decode cc pc = .ok (.ireturn, 1)) : Go G X nL (QM G X nx0 cells slots Post) cells slots nx pc lv [vi z] h := by
  obtain ⟨p, l, e, R, s, m, args, below, meth, c⟩ := X
  obtain ⟨hla, hx, hb, hml, hown, hts, hK, hr, hlocks, hB, hnm, hnw, hfr, hlo, hce, hsl⟩ := k
  intro H locs ls hR hz hS hl
  exact W.zret (v := Int32.ofInt z) (ty := .boolean) hx hb hr (by rcases hz1 with rfl | rfl <;> rfl) (fun t ht hW => ⟨_, h, rfl, hp, by rw [ht]; exact hR, by rw [ht, hz, hnx], hS.F ht⟩) hS.2.2 d hlocks
theorem g_ret (k : Ok G X own nm cc nL (none) lev MC MS) {nx0 : Nat} {Post : Option Value → Hp → Prop}   (hnx : nx = nx0 + cells) (hp : Post none h) (d : decode cc pc = .ok (.return_, 1)) : Go G X nL (QM G X nx0 cells slots Post) cells slots nx pc lv [] h := by
  obtain ⟨p, l, e, R, s, m, args, below, meth, c⟩ := X
  obtain ⟨hla, hx, hb, hml, hown, hts, hK, hr, hlocks, hB, hnm, hnw, hfr, hlo, hce, hsl⟩ := k
  intro H locs ls hR hz hS hl
  exact W.vret hx hb hr (fun t ht hW => ⟨_, h, rfl, hp, by rw [ht]; exact hR, by rw [ht, hz, hnx], hS.F ht⟩) hS.2.2 d hlocks
theorem g_ireti (k : Ok G X own nm cc nL (some .int) lev MC MS) {nx0 : Nat} {P : Int → Hp → Prop} {z : Int}  (hnx : nx = nx0 + cells) (d : decode cc pc = .ok (.ireturn, 1)) (hp : P z h) : Go G X nL (QM G X nx0 cells slots (PI P)) cells slots nx pc lv [vi z] h := g_iret k  hnx ⟨z, rfl, hp⟩ d
theorem g_zreti (k : Ok G X own nm cc nL (some .boolean) lev MC MS) {nx0 : Nat} {P : Int → Hp → Prop} {z : Int} (hz1 : z = 0 ∨ z = 1) (hnx : nx = nx0 + cells) (d : decode cc pc = .ok (.ireturn, 1)) (hp : P z h) : Go G X nL (QM G X nx0 cells slots (PI P)) cells slots nx pc lv [vi z] h := g_zret k hz1 hnx ⟨z, rfl, hp⟩ d
theorem g_lretl (k : Ok G X own nm cc nL (some .long) lev MC MS) {nx0 : Nat} {P : Int → Hp → Prop} {z : Int}  (hnx : nx = nx0 + cells) (d : decode cc pc = .ok (.lreturn, 1)) (hp : P z h) : Go G X nL (QM G X nx0 cells slots (PL P)) cells slots nx pc lv [vl z] h := g_lret k  hnx ⟨z, rfl, hp⟩ d
theorem g_retv (k : Ok G X own nm cc nL none lev MC MS) {nx0 : Nat} {P : Hp → Prop} (hnx : nx = nx0 + cells) (d : decode cc pc = .ok (.return_, 1)) (hp : P h) : Go G X nL (QM G X nx0 cells slots (PV P)) cells slots nx pc lv [] h := g_ret k hnx ⟨rfl, hp⟩ d
end GH
