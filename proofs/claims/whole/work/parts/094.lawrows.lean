/-! rows for the law alone: the script's cell, the same number twice, more room than is used -/
def SX (G : Gx) (X : Cx) (b L : Nat) (xs : Nat → Int32) : Prop :=
  match X with
  | (_, _, _, _, s, _, _, _, _, _) => va_X b L xs s s.heap ∧ b < s.heap.size ∧ ¬ gA G b
section GL
variable {G : Gx} {X : Cx} {own nm : String} {cc : ByteArray} {nL lev MC MS : Nat} {ret : Option FieldType} {Q : State → Prop} {cells slots nx pc : Nat} {lv : List (Nat × Value)} {st : List Value} {h : Hp}
theorem g_sld (k : Ok G X own nm cc nL ret lev MC MS) {b L : Nat} {xs : Nat → Int32} (hX : SX G X b L xs) {i : Int} (j : Nat) (hj : i = (j : Int)) (h1 : j < L) (hL : L < 2147483648) (d : decode cc pc = .ok (.iaload, 1)) (kk : Go G X nL Q cells slots nx (pc + 1) lv (vi (xs j).toInt :: st) h) : Go G X nL Q cells slots nx pc lv (vi i :: .ref b :: st) h := by
  obtain ⟨p, l, e, R, s, m, args, below, meth, c⟩ := X
  obtain ⟨hla, hx, hb, hml, hown, hts, hK, hr, hlocks, hB, hnm, hnw, hfr, hlo, hce, hsl⟩ := k
  intro H locs ls hR hz hS hl
  have hi : (Int32.ofInt i).toNatClampNeg = j := by rw [iN (by omega), hj, Int.toNat_natCast]
  have kk2 := kk H locs ls hR hz hS hl
  rw [iSelf] at kk2
  refine va_sld hx hb hX.1 hX.2.1 hX.2.2 hS (i := Int32.ofInt i) (iIn (by omega) (by omega) hL) d ?_
  rw [hi]
  exact kk2
theorem g_slen (k : Ok G X own nm cc nL ret lev MC MS) {b L : Nat} {xs : Nat → Int32} (hX : SX G X b L xs) (d : decode cc pc = .ok (.arraylength, 1)) (kk : Go G X nL Q cells slots nx (pc + 1) lv (vi (L : Int) :: st) h) : Go G X nL Q cells slots nx pc lv (.ref b :: st) h := by
  obtain ⟨p, l, e, R, s, m, args, below, meth, c⟩ := X
  obtain ⟨hla, hx, hb, hml, hown, hts, hK, hr, hlocks, hB, hnm, hnw, hfr, hlo, hce, hsl⟩ := k
  intro H locs ls hR hz hS hl
  have kk2 := kk H locs ls hR hz hS hl
  unfold vi at kk2
  rw [Int32.ofInt_eq_ofNat] at kk2
  exact va_slen hx hb hX.1 hX.2.1 hX.2.2 hS d kk2
theorem g_eqj (k : Ok G X own nm cc nL ret lev MC MS) {a off : Int} {tgt : Nat} (d : decode cc pc = .ok (.if_icmp .eq off, 3)) (ht : (pc : Int) + off = (tgt : Int)) (kt : Go G X nL Q cells slots nx tgt lv st h) : Go G X nL Q cells slots nx pc lv (vi a :: vi a :: st) h := by
  obtain ⟨p, l, e, R, s, m, args, below, meth, c⟩ := X
  obtain ⟨hla, hx, hb, hml, hown, hts, hK, hr, hlocks, hB, hnm, hnw, hfr, hlo, hce, hsl⟩ := k
  intro H locs ls hR hz hS hl
  exact lv_icmp_eq hx hb d ht (fun _ => kt H locs ls hR hz hS hl) (fun z => absurd rfl z)
theorem g_more {c2 s2 : Nat} (hc : cells ≤ c2) (hs : slots ≤ s2) (kk : Go G X nL Q c2 s2 nx pc lv st h) : Go G X nL Q cells slots nx pc lv st h := by
  obtain ⟨p, l, e, R, s, m, args, below, meth, c⟩ := X
  intro H locs ls hR hz hS hl T hT Y
  exact kk H locs ls hR hz hS hl T hT (stand_widen Y hc hs)
end GL
