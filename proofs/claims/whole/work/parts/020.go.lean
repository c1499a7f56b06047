/-! Go: the machine at a place of a method, over a heap that is a function from addresses to cells, numbers that are integers -/
abbrev Hp : Type := Nat → Option va_E
def hup (h : Hp) (a : Nat) (e : va_E) : Hp := fun q => if q = a then some e else h q
theorem hup_s {h : Hp} {a : Nat} {e : va_E} : hup h a e a = some e := if_pos rfl
theorem hup_n {h : Hp} {a b : Nat} {e : va_E} (n : b ≠ a) : hup h a e b = h b := if_neg n
def vi (z : Int) : Value := .int (Int32.ofInt z)
def vl (z : Int) : Value := .long (Int64.ofInt z)
abbrev Gx : Type := va_G × (Nat → ClassId) × Nat × Launch
def gA (G : Gx) : Nat → Prop := fun q => G.2.2.1 ≤ q
def gT (G : Gx) : List (ClassId × FieldType) := [(G.2.1 0, .int), (G.2.1 1, .long), (G.2.1 2, .boolean), (G.2.1 3, .object RX0), (G.2.1 4, .object RX3)]
def Rp (G : Gx) (h : Hp) (H : Heap) : Prop := ∀ (a : Nat) (e : va_E), h a = some e → va_at G.1 vwCl (a, e) H ∧ gA G a
abbrev Cx : Type := Program × Launch × Env × Room × State × MethodId × Array Value × List Frame × Method × Code
def Ok (G : Gx) (X : Cx) (own nm : String) (cc : ByteArray) (nL : Nat) (ret : Option FieldType) (lev MC MS : Nat) : Prop :=
  match X with
  | (p, l, _, R, s, m, args, _, meth, c) => l = G.2.2.2 ∧ p.tables.exec = Jvm.exec ∧ c.code = cc ∧ c.maxLocals = nL ∧ s.vm.findClass own = some m.cls ∧ (∀ w ∈ TB, w.before args s = true) ∧ va_K G.1 vwCl (gT G) s ∧ meth.sig.returnType = ret ∧ meth.locks = false ∧ G.2.2.1 ≤ s.heap.size ∧ meth.name = nm ∧ NW s ∧ lev ≤ R.frames ∧ 41 * lev ≤ R.locals ∧ R.cells = MC ∧ R.slots = MS
def Go (G : Gx) (X : Cx) (nL : Nat) (Q : State → Prop) (cells slots nx pc : Nat) (lv : List (Nat × Value)) (st : List Value) (h : Hp) : Prop :=
  match X with
  | (p, l, e, R, s, m, args, below, meth, c) => ∀ (H : Heap) (locs : List Loc) (ls : Array Slot), Rp G h H → H.size = nx → va_S (gA G) s.heap H locs → lv_has ls nL lv → W p l e R s m args below meth c H locs cells slots Q (F0 m pc ls st)
def rmL (lev mc ms : Nat) : Room := { frames := lev, cells := mc, slots := ms, locals := 41 * lev }
/-- a contract: from the heap h of nx cells, with these arguments, y returns; its answer and the heap behind it are as Post says -/
def cQ (G : Gx) (nx mc : Nat) (Post : Option Value → Hp → Prop) : Array Value → State → Outcome → State → Prop := fun _ st oc t => ∃ (v : Option Value) (h' : Hp), oc = .returned v ∧ Post v h' ∧ Rp G h' t.heap ∧ t.heap.size = nx + mc ∧ va_F (gA G) st t
def cP (G : Gx) (av : List Value) (h : Hp) (nx : Nat) : Array Value → State → Prop := va_Pc av (fun U => U.heap.size = nx ∧ Rp G h U.heap ∧ va_K G.1 vwCl (gT G) U ∧ NW U ∧ G.2.2.1 ≤ nx)
def Con (G : Gx) (y : MethodName) (cc : ByteArray) (nL : Nat) (ret : Option FieldType) (lev mc ms : Nat) (av : List Value) (h : Hp) (nx : Nat) (Post : Option Value → Hp → Prop) : Prop :=
  Met G.2.2.2 y (Cond.code y cc nL ret :: TB) (rmL lev mc ms) (cP G av h nx) (cQ G nx mc Post) mc ms (gA G)
def QM (G : Gx) (X : Cx) (nx mc ms : Nat) (Post : Option Value → Hp → Prop) : State → Prop :=
  match X with
  | (_, _, _, _, s, _, args, below, _, _) => MQ below (cQ G nx mc Post) args s mc ms (gA G)
def PI (P : Int → Hp → Prop) : Option Value → Hp → Prop := fun v h => ∃ z : Int, v = some (vi z) ∧ P z h
def PL (P : Int → Hp → Prop) : Option Value → Hp → Prop := fun v h => ∃ z : Int, v = some (vl z) ∧ P z h
def PV (P : Hp → Prop) : Option Value → Hp → Prop := fun v h => v = none ∧ P h
def lget : List (Nat × Value) → Nat → Option Value
  | [], _ => none
  | q :: t, i => cond (Nat.beq q.1 i) (some q.2) (lget t i)
def lset : List (Nat × Value) → Nat → Value → List (Nat × Value)
  | [], i, v => [(i, v)]
  | q :: t, i, v => cond (Nat.beq q.1 i) ((i, v) :: t) (q :: lset t i v)
/-- no place twice, none with two slots just ahead of i -/
def lok : List (Nat × Value) → Nat → Bool
  | [], _ => true
  | q :: t, i => !(Nat.beq (q.1 + 1) i && Nat.beq q.2.category 2) && lok t i && cond (Nat.beq q.1 i) (t.all fun r => !(Nat.beq r.1 i)) true
def lsb (lv : List (Nat × Value)) : List (Nat × Value) → Prop
  | [] => True
  | q :: t => lget lv q.1 = some q.2 ∧ lsb lv t
theorem lsb_get {lv : List (Nat × Value)} : ∀ {l : List (Nat × Value)}, lsb lv l → ∀ q ∈ l, lget lv q.1 = some q.2
  | [], _, q, hq => by cases hq
  | r :: t, h, q, hq => by
    rcases List.mem_cons.mp hq with rfl | hq
    · exact h.1
    · exact lsb_get h.2 q hq
theorem lget_in : ∀ {l : List (Nat × Value)} {i : Nat} {v : Value}, lget l i = some v → (i, v) ∈ l
  | [], _, _, h => by cases h
  | q :: t, i, v, h => by
    unfold lget at h
    cases hb : Nat.beq q.1 i with
    | true =>
      rw [hb] at h
      have e := Nat.eq_of_beq_eq_true hb
      have h2 : q.2 = v := Option.some.inj h
      have : q = (i, v) := by rw [← e, ← h2]
      rw [this]
      exact List.mem_cons_self
    | false =>
      rw [hb] at h
      exact List.mem_cons_of_mem _ (lget_in h)
theorem lset_in : ∀ {l : List (Nat × Value)} {i : Nat} {v : Value}, lok l i = true → ∀ q ∈ lset l i v, q = (i, v) ∨ (q ∈ l ∧ q.1 ≠ i ∧ ¬ (q.1 + 1 = i ∧ q.2.category = 2))
  | [], i, v, _, q, hq => by
    have : q ∈ [(i, v)] := hq
    exact Or.inl (List.mem_singleton.mp this)
  | r :: t, i, v, hk, q, hq => by
    simp only [lok, Bool.and_eq_true] at hk
    obtain ⟨⟨k1, k2⟩, k3⟩ := hk
    unfold lset at hq
    cases hb : Nat.beq r.1 i with
    | true =>
      rw [hb] at hq k3
      rcases List.mem_cons.mp hq with h | h
      · exact Or.inl h
      · refine Or.inr ⟨List.mem_cons_of_mem _ h, ?_, ?_⟩
        · intro e
          have := List.all_eq_true.mp k3 q h
          rw [e] at this
          simp at this
        · intro e
          have : ∀ (l : List (Nat × Value)), lok l i = true → q ∈ l → False := by
            intro l
            induction l with
            | nil => intro _ h; cases h
            | cons a b ih =>
              intro h1 h2
              simp only [lok, Bool.and_eq_true] at h1
              rcases List.mem_cons.mp h2 with z | z
              · subst z
                have := h1.1.1
                rw [e.1, e.2] at this
                simp at this
              · exact ih h1.1.2 z
          exact this t k2 h
    | false =>
      rw [hb] at hq
      rcases List.mem_cons.mp hq with h | h
      · subst h
        refine Or.inr ⟨List.mem_cons_self, fun e => ?_, fun e => ?_⟩
        · rw [e] at hb
          simp at hb
        · rw [e.1, e.2] at k1
          simp at k1
      · rcases lset_in k2 q h with z | ⟨z1, z2⟩
        · exact Or.inl z
        · exact Or.inr ⟨List.mem_cons_of_mem _ z1, z2⟩
/-- numbers -/
theorem iT {a : Int} (h : -2147483648 ≤ a ∧ a ≤ 2147483647) : (Int32.ofInt a).toInt = a := Int32.toInt_ofInt_of_le (by omega) (by omega)
theorem iLt {a b : Int} (ha : -2147483648 ≤ a ∧ a ≤ 2147483647) (hb : -2147483648 ≤ b ∧ b ≤ 2147483647) : Int32.ofInt a < Int32.ofInt b ↔ a < b := by rw [Int32.lt_iff_toInt_lt, iT ha, iT hb]
theorem iLe {a b : Int} (ha : -2147483648 ≤ a ∧ a ≤ 2147483647) (hb : -2147483648 ≤ b ∧ b ≤ 2147483647) : Int32.ofInt a ≤ Int32.ofInt b ↔ a ≤ b := by rw [Int32.le_iff_toInt_le, iT ha, iT hb]
theorem iEq {a b : Int} (ha : -2147483648 ≤ a ∧ a ≤ 2147483647) (hb : -2147483648 ≤ b ∧ b ≤ 2147483647) : Int32.ofInt a = Int32.ofInt b ↔ a = b := ⟨fun h => by have h2 := congrArg Int32.toInt h; rw [iT ha, iT hb] at h2; exact h2, fun h => by rw [h]⟩
theorem i0 : Int32.ofInt 0 = 0 := rfl
theorem iN {a : Int} (h : -2147483648 ≤ a ∧ a ≤ 2147483647) : (Int32.ofInt a).toNatClampNeg = a.toNat := Int32.toNatClampNeg_ofInt_of_le (by omega) (by omega)
theorem iIn {a : Int} {n : Nat} (h0 : 0 ≤ a) (h1 : a < n) (hn : n < 2147483648) : vp_in (Int32.ofInt a) n := by
  have ha : -2147483648 ≤ a ∧ a ≤ 2147483647 := by omega
  rw [vp_in_iff, iT ha]
  omega
theorem lT {a : Int} (h : -9223372036854775808 ≤ a ∧ a ≤ 9223372036854775807) : (Int64.ofInt a).toInt = a := Int64.toInt_ofInt_of_le (by omega) (by omega)
theorem lEq {a b : Int} (ha : -9223372036854775808 ≤ a ∧ a ≤ 9223372036854775807) (hb : -9223372036854775808 ≤ b ∧ b ≤ 9223372036854775807) : Int64.ofInt a = Int64.ofInt b ↔ a = b := ⟨fun h => by have h2 := congrArg Int64.toInt h; rw [lT ha, lT hb] at h2; exact h2, fun h => by rw [h]⟩
theorem iSelf (x : Int32) : vi x.toInt = .int x := by unfold vi; rw [Int32.ofInt_toInt]
theorem iRg (x : Int32) : -2147483648 ≤ x.toInt ∧ x.toInt ≤ 2147483647 := ⟨by have := Int32.le_toInt x; omega, by have := Int32.toInt_lt x; omega⟩
theorem iDiv {a b : Int} (h0 : 0 ≤ a ∧ a ≤ 2147483647) (h1 : 0 < b ∧ b ≤ 2147483647) : Int32.ofInt (a / b) = Int32.ofInt a / Int32.ofInt b := by
  have h := Int32.ofInt_tdiv (a := a) (b := b) (by have : Int32.minValue.toInt = -2147483648 := rfl; omega) (by have : Int32.maxValue.toInt = 2147483647 := rfl; omega) (by have : Int32.minValue.toInt = -2147483648 := rfl; omega) (by have : Int32.maxValue.toInt = 2147483647 := rfl; omega)
  rw [← h, Int.tdiv_eq_ediv_of_nonneg h0.1]
theorem iRem {a b : Int} (h0 : 0 ≤ a ∧ a ≤ 2147483647) (h1 : 0 < b ∧ b ≤ 2147483647) : Int32.ofInt (a % b) = Int32.ofInt a - Int32.ofInt a / Int32.ofInt b * Int32.ofInt b := by
  rw [← iDiv h0 h1, ← Int32.ofInt_mul, ← Int32.ofInt_sub]
  congr 1
  have := Int.emod_def a b
  rw [Int.mul_comm] at this
  omega
theorem iSm {b : Int} (h1 : 0 ≤ b ∧ b ≤ 31) : Int32.ofInt b &&& 31 = Int32.ofInt b := by
  obtain ⟨n, rfl⟩ := Int.eq_ofNat_of_zero_le h1.1
  have hn : n ≤ 31 := by omega
  have : ∀ n : Nat, n < 32 → Int32.ofInt (n : Int) &&& 31 = Int32.ofInt (n : Int) := by decide
  exact this n (by omega)
theorem iShl {a b : Int} (h1 : 0 ≤ b ∧ b ≤ 31) : Int32.ofInt (a * 2 ^ b.toNat) = Int32.ofInt a <<< (Int32.ofInt b &&& 31) := by
  rw [iSm h1]
  obtain ⟨n, rfl⟩ := Int.eq_ofNat_of_zero_le h1.1
  have hn : n < 32 := by omega
  have hs : ((Int32.ofInt (n : Int)).toBitVec.smod 32).toNat = n := by
    have : ∀ n : Nat, n < 32 → ((Int32.ofInt (n : Int)).toBitVec.smod 32).toNat = n := by decide
    exact this n hn
  apply Int32.toBitVec.inj
  apply BitVec.eq_of_toNat_eq
  rw [pk_shl (Int32.ofInt a) (Int32.ofInt (n : Int)) n hs]
  show (BitVec.ofInt 32 (a * 2 ^ n)).toNat = (BitVec.ofInt 32 a).toNat * 2 ^ n % 2 ^ 32
  have h2 : ((BitVec.ofInt 32 (a * 2 ^ n)).toNat : Int) = (((BitVec.ofInt 32 a).toNat * 2 ^ n % 2 ^ 32 : Nat) : Int) := by
    rw [BitVec.toNat_ofInt, Int.natCast_emod, Int.natCast_mul, BitVec.toNat_ofInt]
    rw [Int.toNat_of_nonneg (Int.emod_nonneg _ (by decide)), Int.toNat_of_nonneg (Int.emod_nonneg _ (by decide))]
    simp only [Int.natCast_pow]
    have key : ∀ (a b M : Int), (a % M) * b % M = a * b % M := fun a b M => by rw [Int.mul_emod, Int.emod_emod, ← Int.mul_emod]
    exact (key _ _ _).symm
  exact Int.ofNat.inj h2
theorem iShr {a b : Int} (h0 : -2147483648 ≤ a ∧ a ≤ 2147483647) (h1 : 0 ≤ b ∧ b ≤ 31) : Int32.ofInt (a / 2 ^ b.toNat) = Int32.ofInt a >>> (Int32.ofInt b &&& 31) := by
  rw [iSm h1]
  obtain ⟨n, rfl⟩ := Int.eq_ofNat_of_zero_le h1.1
  have hn : n < 32 := by omega
  have hs : ((Int32.ofInt (n : Int)).toBitVec.smod 32).toNat = n := by
    have : ∀ n : Nat, n < 32 → ((Int32.ofInt (n : Int)).toBitVec.smod 32).toNat = n := by decide
    exact this n hn
  apply Int32.toInt_inj.mp
  rw [pk_shr (Int32.ofInt a) (Int32.ofInt (n : Int)) n hs, iT h0, Int.shiftRight_eq_div_pow]
  have hp : (0 : Int) < 2 ^ n := Int.pow_pos (by decide)
  have hp1 : (1 : Int) ≤ 2 ^ n := hp
  rw [iT]
  · simp
  · show _ ≤ a / 2 ^ n ∧ a / 2 ^ n ≤ _
    constructor
    · refine (Int.le_ediv_iff_mul_le hp).mpr ?_
      have : -2147483648 * (2:Int) ^ n ≤ -2147483648 * 1 := Int.mul_le_mul_of_nonpos_left (by decide) hp1
      omega
    · refine Int.ediv_le_of_le_mul hp ?_
      have : 2147483647 * 1 ≤ 2147483647 * (2:Int) ^ n := Int.mul_le_mul_of_nonneg_left hp1 (by decide)
      omega
theorem iTN (a : Int) : ((Int32.ofInt a).toBitVec.toNat : Int) = a % 4294967296 := by
  show ((BitVec.ofInt 32 a).toNat : Int) = _
  rw [BitVec.toNat_ofInt, Int.toNat_of_nonneg (Int.emod_nonneg _ (by decide))]
  rfl
theorem iTNn {a : Int} {n : Nat} (hn : n < 4294967296) (h : a = n) : (Int32.ofInt a).toBitVec.toNat = n := by
  have := iTN a
  subst h
  omega
theorem iUshr {a b : Int} (h1 : 0 ≤ b ∧ b ≤ 31) : ((Int32.ofInt a).toUInt32 >>> ((Int32.ofInt b).toUInt32 &&& Int32.toUInt32 31)).toInt32 = Int32.ofInt (a % 4294967296 / 2 ^ b.toNat) := by
  obtain ⟨n, rfl⟩ := Int.eq_ofNat_of_zero_le h1.1
  have hn : n < 32 := by omega
  have hs : (((Int32.ofInt (n : Int)).toUInt32 &&& Int32.toUInt32 31).toBitVec % 32).toNat = n := by
    have : ∀ n : Nat, n < 32 → (((Int32.ofInt (n : Int)).toUInt32 &&& Int32.toUInt32 31).toBitVec % 32).toNat = n := by decide
    exact this n hn
  apply Int32.toBitVec.inj
  apply BitVec.eq_of_toNat_eq
  rw [pk_ushr (Int32.ofInt a) (Int32.ofInt (n : Int)) n hs]
  have h2 := iTN a
  have h3 := iTN (a % 4294967296 / 2 ^ n)
  have h4 : (((Int32.ofInt a).toBitVec.toNat / 2 ^ n : Nat) : Int) = a % 4294967296 / 2 ^ n := by
    rw [Int.natCast_ediv, h2]; simp
  have h5 : ((Int32.ofInt a).toBitVec.toNat / 2 ^ n : Nat) < 4294967296 := Nat.lt_of_le_of_lt (Nat.div_le_self _ _) (Int32.ofInt a).toBitVec.isLt
  show _ = (Int32.ofInt (a % 4294967296 / 2 ^ n)).toBitVec.toNat
  rw [← h4] at h3 ⊢
  generalize (Int32.ofInt a).toBitVec.toNat / 2 ^ n = w at h3 h5 ⊢
  omega
theorem iAnd {a b : Nat} (ha : a < 2147483648) (hb2 : b < 2147483648) : Int32.ofInt ((a &&& b : Nat) : Int) = Int32.ofInt a &&& Int32.ofInt b := by
  apply Int32.toBitVec.inj
  apply BitVec.eq_of_toNat_eq
  rw [Int32.toBitVec_and, BitVec.toNat_and, iTNn (n := a) (by omega) rfl, iTNn (n := b) (by omega) rfl, iTNn (n := a &&& b) ?_ rfl]
  exact Nat.lt_of_le_of_lt Nat.and_le_left (by omega)
theorem iOr {a b : Nat} (ha : a < 2147483648) (hb2 : b < 2147483648) : Int32.ofInt ((a ||| b : Nat) : Int) = Int32.ofInt a ||| Int32.ofInt b := by
  apply Int32.toBitVec.inj
  apply BitVec.eq_of_toNat_eq
  rw [Int32.toBitVec_or, BitVec.toNat_or, iTNn (n := a) (by omega) rfl, iTNn (n := b) (by omega) rfl, iTNn (n := a ||| b) ?_ rfl]
  have := Nat.or_lt_two_pow (x := a) (y := b) (n := 31) ha hb2
  omega
theorem iAndm {a b : Int} {n : Nat} (hn : n ≤ 31) (hb2 : b = 2 ^ n - 1) : Int32.ofInt (a % 2 ^ n) = Int32.ofInt a &&& Int32.ofInt b := by
  have hp : (0 : Int) < 2 ^ n := Int.pow_pos (by decide)
  have hpN : 2 ^ n ≤ 2 ^ 31 := Nat.pow_le_pow_right (by decide) hn
  have hbN : b = ((2 ^ n - 1 : Nat) : Int) := by rw [hb2, Int.natCast_sub (Nat.one_le_two_pow)]; simp
  apply Int32.toBitVec.inj
  apply BitVec.eq_of_toNat_eq
  have h31 : (2 : Nat) ^ 31 = 2147483648 := by decide
  rw [Int32.toBitVec_and, BitVec.toNat_and, iTNn (a := b) (n := 2 ^ n - 1) (by omega) hbN, Nat.and_two_pow_sub_one_eq_mod]
  have h2 := iTN a
  have h3 := iTN (a % 2 ^ n)
  have h4 : (((Int32.ofInt a).toBitVec.toNat % 2 ^ n : Nat) : Int) = a % 2 ^ n := by
    rw [Int.natCast_emod, h2]
    have hd : ((2 ^ n : Nat) : Int) ∣ 4294967296 := by
      refine ⟨((2 ^ (32 - n) : Nat) : Int), ?_⟩
      rw [← Int.natCast_mul, ← Nat.pow_add]
      rw [show n + (32 - n) = 32 by omega]
      rfl
    rw [Int.emod_emod_of_dvd _ hd]
    simp
  have h5 : 0 ≤ a % 2 ^ n := Int.emod_nonneg _ (by omega)
  have h6 : a % 2 ^ n < 2 ^ n := Int.emod_lt_of_pos _ hp
  have h7 : (2 : Int) ^ n ≤ 2147483648 := by
    have : ((2 ^ n : Nat) : Int) ≤ 2147483648 := by omega
    simpa using this
  rw [Int.emod_eq_of_lt h5 (by omega)] at h3
  omega
theorem iI2l {a : Int} (h0 : -2147483648 ≤ a ∧ a ≤ 2147483647) : (Int32.ofInt a).toInt64 = Int64.ofInt a := by
  refine Int32.toInt64_ofInt ?_ ?_
  · have : Int32.minValue.toInt = -2147483648 := rfl
    omega
  · have : Int32.maxValue.toInt = 2147483647 := rfl
    omega
theorem iLcmp {a b : Int} (ha : -9223372036854775808 ≤ a ∧ a ≤ 9223372036854775807) (hb : -9223372036854775808 ≤ b ∧ b ≤ 9223372036854775807) : Int32.ofInt (if b < a then 1 else if a = b then 0 else -1) = lg_cmp (Int64.ofInt a) (Int64.ofInt b) := by
  have e1 : Int64.ofInt b < Int64.ofInt a ↔ b < a := by rw [Int64.lt_iff_toInt_lt, lT ha, lT hb]
  have e2 := lEq ha hb
  unfold lg_cmp
  by_cases h1 : b < a
  · rw [if_pos h1, if_pos (show Int64.ofInt a > Int64.ofInt b from e1.mpr h1)]; rfl
  · rw [if_neg h1, if_neg (show ¬ Int64.ofInt a > Int64.ofInt b from fun q => h1 (e1.mp q))]
    by_cases h2 : a = b
    · rw [if_pos h2, if_pos (e2.mpr h2)]; rfl
    · rw [if_neg h2, if_neg (fun q => h2 (e2.mp q))]; rfl
section GO
variable {G : Gx} {X : Cx} {own nm : String} {cc : ByteArray} {nL lev MC MS : Nat} {ret : Option FieldType} {Q : State → Prop} {cells slots nx pc : Nat} {lv : List (Nat × Value)} {st : List Value} {h : Hp}

theorem g_iconst (k : Ok G X own nm cc nL ret lev MC MS) {n : Int} (d : decode cc pc = .ok (.iconst n, 1)) (kk : Go G X nL Q cells slots nx (pc + 1) lv (vi n :: st) h) : Go G X nL Q cells slots nx pc lv st h := by
  obtain ⟨p, l, e, R, s, m, args, below, meth, c⟩ := X
  obtain ⟨hla, hx, hb, hml, hown, hts, hK, hr, hlocks, hB, hnm, hnw, hfr, hlo, hce, hsl⟩ := k
  intro H locs ls hR hz hS hl
  have kk := kk H locs ls hR hz hS hl
  exact lv_iconst hx hb d rfl kk
theorem g_bipush (k : Ok G X own nm cc nL ret lev MC MS) {n : Int} (hv : (Int8.ofInt n).toInt32 = Int32.ofInt n) (d : decode cc pc = .ok (.bipush n, 2)) (kk : Go G X nL Q cells slots nx (pc + 2) lv (vi n :: st) h) : Go G X nL Q cells slots nx pc lv st h := by
  obtain ⟨p, l, e, R, s, m, args, below, meth, c⟩ := X
  obtain ⟨hla, hx, hb, hml, hown, hts, hK, hr, hlocks, hB, hnm, hnw, hfr, hlo, hce, hsl⟩ := k
  intro H locs ls hR hz hS hl
  have kk := kk H locs ls hR hz hS hl
  exact lv_bipush hx hb d hv kk
theorem g_sipush (k : Ok G X own nm cc nL ret lev MC MS) {n : Int} (hv : (Int16.ofInt n).toInt32 = Int32.ofInt n) (d : decode cc pc = .ok (.sipush n, 3)) (kk : Go G X nL Q cells slots nx (pc + 3) lv (vi n :: st) h) : Go G X nL Q cells slots nx pc lv st h := by
  obtain ⟨p, l, e, R, s, m, args, below, meth, c⟩ := X
  obtain ⟨hla, hx, hb, hml, hown, hts, hK, hr, hlocks, hB, hnm, hnw, hfr, hlo, hce, hsl⟩ := k
  intro H locs ls hR hz hS hl
  have kk := kk H locs ls hR hz hS hl
  exact lv_sipush hx hb d hv kk
theorem g_lconst (k : Ok G X own nm cc nL ret lev MC MS) {n : Fin 2} {z : Int} (hv : Int64.ofNat (n : Nat) = Int64.ofInt z) (d : decode cc pc = .ok (.lconst n, 1)) (kk : Go G X nL Q cells slots nx (pc + 1) lv (vl z :: st) h) : Go G X nL Q cells slots nx pc lv st h := by
  obtain ⟨p, l, e, R, s, m, args, below, meth, c⟩ := X
  obtain ⟨hla, hx, hb, hml, hown, hts, hK, hr, hlocks, hB, hnm, hnw, hfr, hlo, hce, hsl⟩ := k
  intro H locs ls hR hz hS hl
  have kk := kk H locs ls hR hz hS hl
  exact lv_lconst hx hb d hv kk
theorem g_iload_n (k : Ok G X own nm cc nL ret lev MC MS) {i : Fin 4} {z : Int} (hg : lget lv i = some (vi z)) (d : decode cc pc = .ok (.iload_n i, 1)) (kk : Go G X nL Q cells slots nx (pc + 1) lv (vi z :: st) h) : Go G X nL Q cells slots nx pc lv st h := by
  obtain ⟨p, l, e, R, s, m, args, below, meth, c⟩ := X
  obtain ⟨hla, hx, hb, hml, hown, hts, hK, hr, hlocks, hB, hnm, hnw, hfr, hlo, hce, hsl⟩ := k
  intro H locs ls hR hz hS hl
  have kk := kk H locs ls hR hz hS hl
  exact lv_iload_n hx hb d rfl (hl.2.2 _ (lget_in hg)) kk
theorem g_iload (k : Ok G X own nm cc nL ret lev MC MS) {i : Nat} {z : Int} (hg : lget lv i = some (vi z)) (d : decode cc pc = .ok (.iload i, 2)) (kk : Go G X nL Q cells slots nx (pc + 2) lv (vi z :: st) h) : Go G X nL Q cells slots nx pc lv st h := by
  obtain ⟨p, l, e, R, s, m, args, below, meth, c⟩ := X
  obtain ⟨hla, hx, hb, hml, hown, hts, hK, hr, hlocks, hB, hnm, hnw, hfr, hlo, hce, hsl⟩ := k
  intro H locs ls hR hz hS hl
  have kk := kk H locs ls hR hz hS hl
  exact lv_iload hx hb d (hl.2.2 _ (lget_in hg)) kk
theorem g_lload_n (k : Ok G X own nm cc nL ret lev MC MS) {i : Fin 4} {z : Int} (hg : lget lv i = some (vl z)) (d : decode cc pc = .ok (.lload_n i, 1)) (kk : Go G X nL Q cells slots nx (pc + 1) lv (vl z :: st) h) : Go G X nL Q cells slots nx pc lv st h := by
  obtain ⟨p, l, e, R, s, m, args, below, meth, c⟩ := X
  obtain ⟨hla, hx, hb, hml, hown, hts, hK, hr, hlocks, hB, hnm, hnw, hfr, hlo, hce, hsl⟩ := k
  intro H locs ls hR hz hS hl
  have kk := kk H locs ls hR hz hS hl
  exact lv_lload_n hx hb d rfl (hl.2.2 _ (lget_in hg)) kk
theorem g_lload (k : Ok G X own nm cc nL ret lev MC MS) {i : Nat} {z : Int} (hg : lget lv i = some (vl z)) (d : decode cc pc = .ok (.lload i, 2)) (kk : Go G X nL Q cells slots nx (pc + 2) lv (vl z :: st) h) : Go G X nL Q cells slots nx pc lv st h := by
  obtain ⟨p, l, e, R, s, m, args, below, meth, c⟩ := X
  obtain ⟨hla, hx, hb, hml, hown, hts, hK, hr, hlocks, hB, hnm, hnw, hfr, hlo, hce, hsl⟩ := k
  intro H locs ls hR hz hS hl
  have kk := kk H locs ls hR hz hS hl
  exact lv_lload hx hb d (hl.2.2 _ (lget_in hg)) kk
theorem g_aload_n (k : Ok G X own nm cc nL ret lev MC MS) {i : Fin 4} {z : Nat} (hg : lget lv i = some (.ref z)) (d : decode cc pc = .ok (.aload_n i, 1)) (kk : Go G X nL Q cells slots nx (pc + 1) lv (.ref z :: st) h) : Go G X nL Q cells slots nx pc lv st h := by
  obtain ⟨p, l, e, R, s, m, args, below, meth, c⟩ := X
  obtain ⟨hla, hx, hb, hml, hown, hts, hK, hr, hlocks, hB, hnm, hnw, hfr, hlo, hce, hsl⟩ := k
  intro H locs ls hR hz hS hl
  have kk := kk H locs ls hR hz hS hl
  exact lv_aload_n hx hb d rfl (hl.2.2 _ (lget_in hg)) kk
theorem g_aload (k : Ok G X own nm cc nL ret lev MC MS) {i : Nat} {z : Nat} (hg : lget lv i = some (.ref z)) (d : decode cc pc = .ok (.aload i, 2)) (kk : Go G X nL Q cells slots nx (pc + 2) lv (.ref z :: st) h) : Go G X nL Q cells slots nx pc lv st h := by
  obtain ⟨p, l, e, R, s, m, args, below, meth, c⟩ := X
  obtain ⟨hla, hx, hb, hml, hown, hts, hK, hr, hlocks, hB, hnm, hnw, hfr, hlo, hce, hsl⟩ := k
  intro H locs ls hR hz hS hl
  have kk := kk H locs ls hR hz hS hl
  exact lv_aload hx hb d (hl.2.2 _ (lget_in hg)) kk
theorem g_ldc (k : Ok G X own nm cc nL ret lev MC MS) {i : Nat} {z : Int} {v : Int32} (hc : Cond.constant own i v ∈ TB) (hv : v = Int32.ofInt z) (d : decode cc pc = .ok (.ldc i, 2)) (kk : Go G X nL Q cells slots nx (pc + 2) lv (vi z :: st) h) : Go G X nL Q cells slots nx pc lv st h := by
  obtain ⟨p, l, e, R, s, m, args, below, meth, c⟩ := X
  obtain ⟨hla, hx, hb, hml, hown, hts, hK, hr, hlocks, hB, hnm, hnw, hfr, hlo, hce, hsl⟩ := k
  intro H locs ls hR hz hS hl
  have kk := kk H locs ls hR hz hS hl
  subst hv
  exact lv_ldc hx hb hown (hts _ hc) d kk
theorem g_ldcw (k : Ok G X own nm cc nL ret lev MC MS) {i : Nat} {z : Int} {v : Int32} (hc : Cond.constant own i v ∈ TB) (hv : v = Int32.ofInt z) (d : decode cc pc = .ok (.ldc_w i, 3)) (kk : Go G X nL Q cells slots nx (pc + 3) lv (vi z :: st) h) : Go G X nL Q cells slots nx pc lv st h := by
  obtain ⟨p, l, e, R, s, m, args, below, meth, c⟩ := X
  obtain ⟨hla, hx, hb, hml, hown, hts, hK, hr, hlocks, hB, hnm, hnw, hfr, hlo, hce, hsl⟩ := k
  intro H locs ls hR hz hS hl
  have kk := kk H locs ls hR hz hS hl
  subst hv
  exact lv_ldcw hx hb hown (hts _ hc) d kk
theorem g_ldc2 (k : Ok G X own nm cc nL ret lev MC MS) {i : Nat} {z : Int} {v : Int64} (hc : Cond.constantLong own i v ∈ TB) (hv : v = Int64.ofInt z) (d : decode cc pc = .ok (.ldc2_w i, 3)) (kk : Go G X nL Q cells slots nx (pc + 3) lv (vl z :: st) h) : Go G X nL Q cells slots nx pc lv st h := by
  obtain ⟨p, l, e, R, s, m, args, below, meth, c⟩ := X
  obtain ⟨hla, hx, hb, hml, hown, hts, hK, hr, hlocks, hB, hnm, hnw, hfr, hlo, hce, hsl⟩ := k
  intro H locs ls hR hz hS hl
  have kk := kk H locs ls hR hz hS hl
  subst hv
  exact lv_ldc2 hx hb hown (hts _ hc) d kk
theorem g_iadd (k : Ok G X own nm cc nL ret lev MC MS) {a b : Int} (d : decode cc pc = .ok (.iadd, 1)) (kk : Go G X nL Q cells slots nx (pc + 1) lv (vi (a + b) :: st) h) : Go G X nL Q cells slots nx pc lv (vi b :: vi a :: st) h := by
  obtain ⟨p, l, e, R, s, m, args, below, meth, c⟩ := X
  obtain ⟨hla, hx, hb, hml, hown, hts, hK, hr, hlocks, hB, hnm, hnw, hfr, hlo, hce, hsl⟩ := k
  intro H locs ls hR hz hS hl
  have kk := kk H locs ls hR hz hS hl
  unfold vi at kk
  rw [Int32.ofInt_add] at kk
  exact lv_iadd hx hb d kk
theorem g_isub (k : Ok G X own nm cc nL ret lev MC MS) {a b : Int} (d : decode cc pc = .ok (.isub, 1)) (kk : Go G X nL Q cells slots nx (pc + 1) lv (vi (a - b) :: st) h) : Go G X nL Q cells slots nx pc lv (vi b :: vi a :: st) h := by
  obtain ⟨p, l, e, R, s, m, args, below, meth, c⟩ := X
  obtain ⟨hla, hx, hb, hml, hown, hts, hK, hr, hlocks, hB, hnm, hnw, hfr, hlo, hce, hsl⟩ := k
  intro H locs ls hR hz hS hl
  have kk := kk H locs ls hR hz hS hl
  unfold vi at kk
  rw [Int32.ofInt_sub] at kk
  exact lv_isub hx hb d kk
theorem g_imul (k : Ok G X own nm cc nL ret lev MC MS) {a b : Int} (d : decode cc pc = .ok (.imul, 1)) (kk : Go G X nL Q cells slots nx (pc + 1) lv (vi (a * b) :: st) h) : Go G X nL Q cells slots nx pc lv (vi b :: vi a :: st) h := by
  obtain ⟨p, l, e, R, s, m, args, below, meth, c⟩ := X
  obtain ⟨hla, hx, hb, hml, hown, hts, hK, hr, hlocks, hB, hnm, hnw, hfr, hlo, hce, hsl⟩ := k
  intro H locs ls hR hz hS hl
  have kk := kk H locs ls hR hz hS hl
  unfold vi at kk
  rw [Int32.ofInt_mul] at kk
  exact lv_imul hx hb d kk
theorem g_ladd (k : Ok G X own nm cc nL ret lev MC MS) {a b : Int} (d : decode cc pc = .ok (.ladd, 1)) (kk : Go G X nL Q cells slots nx (pc + 1) lv (vl (a + b) :: st) h) : Go G X nL Q cells slots nx pc lv (vl b :: vl a :: st) h := by
  obtain ⟨p, l, e, R, s, m, args, below, meth, c⟩ := X
  obtain ⟨hla, hx, hb, hml, hown, hts, hK, hr, hlocks, hB, hnm, hnw, hfr, hlo, hce, hsl⟩ := k
  intro H locs ls hR hz hS hl
  have kk := kk H locs ls hR hz hS hl
  unfold vl at kk
  rw [Int64.ofInt_add] at kk
  exact lv_ladd hx hb d kk
theorem g_lsub (k : Ok G X own nm cc nL ret lev MC MS) {a b : Int} (d : decode cc pc = .ok (.lsub, 1)) (kk : Go G X nL Q cells slots nx (pc + 1) lv (vl (a - b) :: st) h) : Go G X nL Q cells slots nx pc lv (vl b :: vl a :: st) h := by
  obtain ⟨p, l, e, R, s, m, args, below, meth, c⟩ := X
  obtain ⟨hla, hx, hb, hml, hown, hts, hK, hr, hlocks, hB, hnm, hnw, hfr, hlo, hce, hsl⟩ := k
  intro H locs ls hR hz hS hl
  have kk := kk H locs ls hR hz hS hl
  unfold vl at kk
  rw [Int64.ofInt_sub] at kk
  exact lv_lsub hx hb d kk
theorem g_lmul (k : Ok G X own nm cc nL ret lev MC MS) {a b : Int} (d : decode cc pc = .ok (.lmul, 1)) (kk : Go G X nL Q cells slots nx (pc + 1) lv (vl (a * b) :: st) h) : Go G X nL Q cells slots nx pc lv (vl b :: vl a :: st) h := by
  obtain ⟨p, l, e, R, s, m, args, below, meth, c⟩ := X
  obtain ⟨hla, hx, hb, hml, hown, hts, hK, hr, hlocks, hB, hnm, hnw, hfr, hlo, hce, hsl⟩ := k
  intro H locs ls hR hz hS hl
  have kk := kk H locs ls hR hz hS hl
  unfold vl at kk
  rw [Int64.ofInt_mul] at kk
  exact lv_lmul hx hb d kk
theorem g_ineg (k : Ok G X own nm cc nL ret lev MC MS) {a : Int} (d : decode cc pc = .ok (.ineg, 1)) (kk : Go G X nL Q cells slots nx (pc + 1) lv (vi (-a) :: st) h) : Go G X nL Q cells slots nx pc lv (vi a :: st) h := by
  obtain ⟨p, l, e, R, s, m, args, below, meth, c⟩ := X
  obtain ⟨hla, hx, hb, hml, hown, hts, hK, hr, hlocks, hB, hnm, hnw, hfr, hlo, hce, hsl⟩ := k
  intro H locs ls hR hz hS hl
  have kk := kk H locs ls hR hz hS hl
  unfold vi at kk
  rw [show Int32.ofInt (-a) = 0 - Int32.ofInt a by rw [Int32.ofInt_neg]; simp] at kk
  exact lv_ineg hx hb d kk
theorem g_idiv (k : Ok G X own nm cc nL ret lev MC MS) {a b : Int} (h0 : 0 ≤ a ∧ a ≤ 2147483647) (h1 : 0 < b ∧ b ≤ 2147483647) (d : decode cc pc = .ok (.idiv, 1)) (kk : Go G X nL Q cells slots nx (pc + 1) lv (vi (a / b) :: st) h) : Go G X nL Q cells slots nx pc lv (vi b :: vi a :: st) h := by
  obtain ⟨p, l, e, R, s, m, args, below, meth, c⟩ := X
  obtain ⟨hla, hx, hb, hml, hown, hts, hK, hr, hlocks, hB, hnm, hnw, hfr, hlo, hce, hsl⟩ := k
  intro H locs ls hR hz hS hl
  have kk := kk H locs ls hR hz hS hl
  unfold vi at kk
  rw [iDiv h0 h1] at kk
  exact lv_idiv hx hb d (fun q => by have := (iEq (a := b) (b := 0) (by omega) (by omega)).mp q; omega) kk
theorem g_irem (k : Ok G X own nm cc nL ret lev MC MS) {a b : Int} (h0 : 0 ≤ a ∧ a ≤ 2147483647) (h1 : 0 < b ∧ b ≤ 2147483647) (d : decode cc pc = .ok (.irem, 1)) (kk : Go G X nL Q cells slots nx (pc + 1) lv (vi (a % b) :: st) h) : Go G X nL Q cells slots nx pc lv (vi b :: vi a :: st) h := by
  obtain ⟨p, l, e, R, s, m, args, below, meth, c⟩ := X
  obtain ⟨hla, hx, hb, hml, hown, hts, hK, hr, hlocks, hB, hnm, hnw, hfr, hlo, hce, hsl⟩ := k
  intro H locs ls hR hz hS hl
  have kk := kk H locs ls hR hz hS hl
  unfold vi at kk
  rw [iRem h0 h1] at kk
  exact lv_irem hx hb d (fun q => by have := (iEq (a := b) (b := 0) (by omega) (by omega)).mp q; omega) kk
theorem g_ishl (k : Ok G X own nm cc nL ret lev MC MS) {a b : Int} (h1 : 0 ≤ b ∧ b ≤ 31) (d : decode cc pc = .ok (.ishl, 1)) (kk : Go G X nL Q cells slots nx (pc + 1) lv (vi (a * 2 ^ b.toNat) :: st) h) : Go G X nL Q cells slots nx pc lv (vi b :: vi a :: st) h := by
  obtain ⟨p, l, e, R, s, m, args, below, meth, c⟩ := X
  obtain ⟨hla, hx, hb, hml, hown, hts, hK, hr, hlocks, hB, hnm, hnw, hfr, hlo, hce, hsl⟩ := k
  intro H locs ls hR hz hS hl
  have kk := kk H locs ls hR hz hS hl
  unfold vi at kk
  rw [iShl h1] at kk
  exact lv_ishl hx hb d kk
theorem g_ishr (k : Ok G X own nm cc nL ret lev MC MS) {a b : Int} (h0 : -2147483648 ≤ a ∧ a ≤ 2147483647) (h1 : 0 ≤ b ∧ b ≤ 31) (d : decode cc pc = .ok (.ishr, 1)) (kk : Go G X nL Q cells slots nx (pc + 1) lv (vi (a / 2 ^ b.toNat) :: st) h) : Go G X nL Q cells slots nx pc lv (vi b :: vi a :: st) h := by
  obtain ⟨p, l, e, R, s, m, args, below, meth, c⟩ := X
  obtain ⟨hla, hx, hb, hml, hown, hts, hK, hr, hlocks, hB, hnm, hnw, hfr, hlo, hce, hsl⟩ := k
  intro H locs ls hR hz hS hl
  have kk := kk H locs ls hR hz hS hl
  unfold vi at kk
  rw [iShr h0 h1] at kk
  exact lv_ishr hx hb d kk
theorem g_iushr (k : Ok G X own nm cc nL ret lev MC MS) {a b : Int} (h1 : 0 ≤ b ∧ b ≤ 31) (d : decode cc pc = .ok (.iushr, 1)) (kk : Go G X nL Q cells slots nx (pc + 1) lv (vi (a % 4294967296 / 2 ^ b.toNat) :: st) h) : Go G X nL Q cells slots nx pc lv (vi b :: vi a :: st) h := by
  obtain ⟨p, l, e, R, s, m, args, below, meth, c⟩ := X
  obtain ⟨hla, hx, hb, hml, hown, hts, hK, hr, hlocks, hB, hnm, hnw, hfr, hlo, hce, hsl⟩ := k
  intro H locs ls hR hz hS hl
  have kk := kk H locs ls hR hz hS hl
  exact lv_iushr hx hb d (iUshr h1) kk
theorem g_iandm (k : Ok G X own nm cc nL ret lev MC MS) {a b : Int} (n : Nat) (hn : n ≤ 31) (hb2 : b = 2 ^ n - 1) (d : decode cc pc = .ok (.iand, 1)) (kk : Go G X nL Q cells slots nx (pc + 1) lv (vi (a % 2 ^ n) :: st) h) : Go G X nL Q cells slots nx pc lv (vi b :: vi a :: st) h := by
  obtain ⟨p, l, e, R, s, m, args, below, meth, c⟩ := X
  obtain ⟨hla, hx, hb, hml, hown, hts, hK, hr, hlocks, hB, hnm, hnw, hfr, hlo, hce, hsl⟩ := k
  intro H locs ls hR hz hS hl
  have kk := kk H locs ls hR hz hS hl
  unfold vi at kk
  rw [iAndm hn hb2] at kk
  exact lv_iand hx hb d kk
theorem g_iand (k : Ok G X own nm cc nL ret lev MC MS) {a b : Nat} (ha : a < 2147483648) (hb2 : b < 2147483648) (d : decode cc pc = .ok (.iand, 1)) (kk : Go G X nL Q cells slots nx (pc + 1) lv (vi ((a &&& b : Nat) : Int) :: st) h) : Go G X nL Q cells slots nx pc lv (vi b :: vi a :: st) h := by
  obtain ⟨p, l, e, R, s, m, args, below, meth, c⟩ := X
  obtain ⟨hla, hx, hb, hml, hown, hts, hK, hr, hlocks, hB, hnm, hnw, hfr, hlo, hce, hsl⟩ := k
  intro H locs ls hR hz hS hl
  have kk := kk H locs ls hR hz hS hl
  unfold vi at kk
  rw [iAnd ha hb2] at kk
  exact lv_iand hx hb d kk
theorem g_ior (k : Ok G X own nm cc nL ret lev MC MS) {a b : Nat} (ha : a < 2147483648) (hb2 : b < 2147483648) (d : decode cc pc = .ok (.ior, 1)) (kk : Go G X nL Q cells slots nx (pc + 1) lv (vi ((a ||| b : Nat) : Int) :: st) h) : Go G X nL Q cells slots nx pc lv (vi b :: vi a :: st) h := by
  obtain ⟨p, l, e, R, s, m, args, below, meth, c⟩ := X
  obtain ⟨hla, hx, hb, hml, hown, hts, hK, hr, hlocks, hB, hnm, hnw, hfr, hlo, hce, hsl⟩ := k
  intro H locs ls hR hz hS hl
  have kk := kk H locs ls hR hz hS hl
  unfold vi at kk
  rw [iOr ha hb2] at kk
  exact lv_ior hx hb d kk
theorem g_i2l (k : Ok G X own nm cc nL ret lev MC MS) {a : Int} (h0 : -2147483648 ≤ a ∧ a ≤ 2147483647) (d : decode cc pc = .ok (.i2l, 1)) (kk : Go G X nL Q cells slots nx (pc + 1) lv (vl a :: st) h) : Go G X nL Q cells slots nx pc lv (vi a :: st) h := by
  obtain ⟨p, l, e, R, s, m, args, below, meth, c⟩ := X
  obtain ⟨hla, hx, hb, hml, hown, hts, hK, hr, hlocks, hB, hnm, hnw, hfr, hlo, hce, hsl⟩ := k
  intro H locs ls hR hz hS hl
  have kk := kk H locs ls hR hz hS hl
  exact lv_i2l hx hb d (iI2l h0) kk
theorem g_lcmp (k : Ok G X own nm cc nL ret lev MC MS) {a b : Int} (ha : -9223372036854775808 ≤ a ∧ a ≤ 9223372036854775807) (hb2 : -9223372036854775808 ≤ b ∧ b ≤ 9223372036854775807)  (d : decode cc pc = .ok (.lcmp, 1)) (kk : Go G X nL Q cells slots nx (pc + 1) lv (vi (if b < a then 1 else if a = b then 0 else -1) :: st) h) : Go G X nL Q cells slots nx pc lv (vl b :: vl a :: st) h := by
  obtain ⟨p, l, e, R, s, m, args, below, meth, c⟩ := X
  obtain ⟨hla, hx, hb, hml, hown, hts, hK, hr, hlocks, hB, hnm, hnw, hfr, hlo, hce, hsl⟩ := k
  intro H locs ls hR hz hS hl
  have kk := kk H locs ls hR hz hS hl
  unfold vi at kk
  rw [iLcmp ha hb2] at kk
  exact W.lcmp hx hb d kk
theorem g_dup (k : Ok G X own nm cc nL ret lev MC MS) {v : Value} (hv : v.category = 1) (d : decode cc pc = .ok (.dup, 1)) (kk : Go G X nL Q cells slots nx (pc + 1) lv (v :: v :: st) h) : Go G X nL Q cells slots nx pc lv (v :: st) h := by
  obtain ⟨p, l, e, R, s, m, args, below, meth, c⟩ := X
  obtain ⟨hla, hx, hb, hml, hown, hts, hK, hr, hlocks, hB, hnm, hnw, hfr, hlo, hce, hsl⟩ := k
  intro H locs ls hR hz hS hl
  have kk := kk H locs ls hR hz hS hl
  exact lv_dup hx hb d hv kk
theorem g_pop (k : Ok G X own nm cc nL ret lev MC MS) {v : Value} (hv : v.category = 1) (d : decode cc pc = .ok (.pop, 1)) (kk : Go G X nL Q cells slots nx (pc + 1) lv st h) : Go G X nL Q cells slots nx pc lv (v :: st) h := by
  obtain ⟨p, l, e, R, s, m, args, below, meth, c⟩ := X
  obtain ⟨hla, hx, hb, hml, hown, hts, hK, hr, hlocks, hB, hnm, hnw, hfr, hlo, hce, hsl⟩ := k
  intro H locs ls hR hz hS hl
  have kk := kk H locs ls hR hz hS hl
  exact lv_pop hx hb d hv kk
theorem g_dup2 (k : Ok G X own nm cc nL ret lev MC MS) {v w : Value} (hv : v.category = 1) (hw : w.category = 1) (d : decode cc pc = .ok (.dup2, 1)) (kk : Go G X nL Q cells slots nx (pc + 1) lv (v :: w :: v :: w :: st) h) : Go G X nL Q cells slots nx pc lv (v :: w :: st) h := by
  obtain ⟨p, l, e, R, s, m, args, below, meth, c⟩ := X
  obtain ⟨hla, hx, hb, hml, hown, hts, hK, hr, hlocks, hB, hnm, hnw, hfr, hlo, hce, hsl⟩ := k
  intro H locs ls hR hz hS hl
  have kk := kk H locs ls hR hz hS hl
  exact lv_dup2_11 hx hb d hv hw kk
theorem g_istore_n (k : Ok G X own nm cc nL ret lev MC MS) {i : Fin 4} {z : Int} {lv2 : List (Nat × Value)} (hn : (i : Nat) < nL) (ho : lok lv (i : Nat) = true) (hs : lset lv (i : Nat) (vi z) = lv2) (d : decode cc pc = .ok (.istore_n i, 1)) (kk : Go G X nL Q cells slots nx (pc + 1) lv2 st h) : Go G X nL Q cells slots nx pc lv (vi z :: st) h := by
  obtain ⟨p, l, e, R, s, m, args, below, meth, c⟩ := X
  obtain ⟨hla, hx, hb, hml, hown, hts, hK, hr, hlocks, hB, hnm, hnw, hfr, hlo, hce, hsl⟩ := k
  intro H locs ls hR hz hS hl
  refine lv_istore_n hx hb d rfl hl hn rfl (fun ls2 hl2 => kk H locs ls2 hR hz hS ⟨hl2.1, hl2.2.1, fun q hq => ?_⟩)
  rw [← hs] at hq
  rcases lset_in ho q hq with rfl | ⟨h1, h2, h3⟩
  · exact hl2.2.2 _ List.mem_cons_self
  · refine hl2.2.2 _ (List.mem_cons_of_mem _ (List.mem_filter.mpr ⟨h1, ?_⟩))
    simp only [Bool.and_eq_true, Bool.not_eq_true', beq_eq_false_iff_ne, Bool.and_eq_false_iff]
    refine ⟨h2, ?_⟩
    by_cases z1 : q.1 + 1 = (i : Nat)
    · exact Or.inr (fun z2 => h3 ⟨z1, z2⟩)
    · exact Or.inl z1
theorem g_istore (k : Ok G X own nm cc nL ret lev MC MS) {i : Nat} {z : Int} {lv2 : List (Nat × Value)} (hn : i < nL) (ho : lok lv i = true) (hs : lset lv i (vi z) = lv2) (d : decode cc pc = .ok (.istore i, 2)) (kk : Go G X nL Q cells slots nx (pc + 2) lv2 st h) : Go G X nL Q cells slots nx pc lv (vi z :: st) h := by
  obtain ⟨p, l, e, R, s, m, args, below, meth, c⟩ := X
  obtain ⟨hla, hx, hb, hml, hown, hts, hK, hr, hlocks, hB, hnm, hnw, hfr, hlo, hce, hsl⟩ := k
  intro H locs ls hR hz hS hl
  refine lv_istore hx hb d hl hn rfl (fun ls2 hl2 => kk H locs ls2 hR hz hS ⟨hl2.1, hl2.2.1, fun q hq => ?_⟩)
  rw [← hs] at hq
  rcases lset_in ho q hq with rfl | ⟨h1, h2, h3⟩
  · exact hl2.2.2 _ List.mem_cons_self
  · refine hl2.2.2 _ (List.mem_cons_of_mem _ (List.mem_filter.mpr ⟨h1, ?_⟩))
    simp only [Bool.and_eq_true, Bool.not_eq_true', beq_eq_false_iff_ne, Bool.and_eq_false_iff]
    refine ⟨h2, ?_⟩
    by_cases z1 : q.1 + 1 = i
    · exact Or.inr (fun z2 => h3 ⟨z1, z2⟩)
    · exact Or.inl z1
theorem g_astore_n (k : Ok G X own nm cc nL ret lev MC MS) {i : Fin 4} {z : Nat} {lv2 : List (Nat × Value)} (hn : (i : Nat) < nL) (ho : lok lv (i : Nat) = true) (hs : lset lv (i : Nat) (.ref z) = lv2) (d : decode cc pc = .ok (.astore_n i, 1)) (kk : Go G X nL Q cells slots nx (pc + 1) lv2 st h) : Go G X nL Q cells slots nx pc lv (.ref z :: st) h := by
  obtain ⟨p, l, e, R, s, m, args, below, meth, c⟩ := X
  obtain ⟨hla, hx, hb, hml, hown, hts, hK, hr, hlocks, hB, hnm, hnw, hfr, hlo, hce, hsl⟩ := k
  intro H locs ls hR hz hS hl
  refine lv_astore_n hx hb d rfl hl hn rfl (fun ls2 hl2 => kk H locs ls2 hR hz hS ⟨hl2.1, hl2.2.1, fun q hq => ?_⟩)
  rw [← hs] at hq
  rcases lset_in ho q hq with rfl | ⟨h1, h2, h3⟩
  · exact hl2.2.2 _ List.mem_cons_self
  · refine hl2.2.2 _ (List.mem_cons_of_mem _ (List.mem_filter.mpr ⟨h1, ?_⟩))
    simp only [Bool.and_eq_true, Bool.not_eq_true', beq_eq_false_iff_ne, Bool.and_eq_false_iff]
    refine ⟨h2, ?_⟩
    by_cases z1 : q.1 + 1 = (i : Nat)
    · exact Or.inr (fun z2 => h3 ⟨z1, z2⟩)
    · exact Or.inl z1
theorem g_astore (k : Ok G X own nm cc nL ret lev MC MS) {i : Nat} {z : Nat} {lv2 : List (Nat × Value)} (hn : i < nL) (ho : lok lv i = true) (hs : lset lv i (.ref z) = lv2) (d : decode cc pc = .ok (.astore i, 2)) (kk : Go G X nL Q cells slots nx (pc + 2) lv2 st h) : Go G X nL Q cells slots nx pc lv (.ref z :: st) h := by
  obtain ⟨p, l, e, R, s, m, args, below, meth, c⟩ := X
  obtain ⟨hla, hx, hb, hml, hown, hts, hK, hr, hlocks, hB, hnm, hnw, hfr, hlo, hce, hsl⟩ := k
  intro H locs ls hR hz hS hl
  refine lv_astore hx hb d hl hn rfl (fun ls2 hl2 => kk H locs ls2 hR hz hS ⟨hl2.1, hl2.2.1, fun q hq => ?_⟩)
  rw [← hs] at hq
  rcases lset_in ho q hq with rfl | ⟨h1, h2, h3⟩
  · exact hl2.2.2 _ List.mem_cons_self
  · refine hl2.2.2 _ (List.mem_cons_of_mem _ (List.mem_filter.mpr ⟨h1, ?_⟩))
    simp only [Bool.and_eq_true, Bool.not_eq_true', beq_eq_false_iff_ne, Bool.and_eq_false_iff]
    refine ⟨h2, ?_⟩
    by_cases z1 : q.1 + 1 = i
    · exact Or.inr (fun z2 => h3 ⟨z1, z2⟩)
    · exact Or.inl z1
theorem g_lstore (k : Ok G X own nm cc nL ret lev MC MS) {i : Nat} {z : Int} {lv2 : List (Nat × Value)} (hn : i + 1 < nL) (hs : (i, vl z) :: lv.filter (fun q => !(q.1 == i) && (!(q.1 == i + 1) && !(q.1 + 1 == i && q.2.category == 2))) = lv2) (d : decode cc pc = .ok (.lstore i, 2)) (kk : Go G X nL Q cells slots nx (pc + 2) lv2 st h) : Go G X nL Q cells slots nx pc lv (vl z :: st) h := by
  obtain ⟨p, l, e, R, s, m, args, below, meth, c⟩ := X
  obtain ⟨hla, hx, hb, hml, hown, hts, hK, hr, hlocks, hB, hnm, hnw, hfr, hlo, hce, hsl⟩ := k
  intro H locs ls hR hz hS hl
  exact lv_lstore hx hb d hl hn hs (fun ls2 hl2 => kk H locs ls2 hR hz hS hl2)
theorem g_iinc (k : Ok G X own nm cc nL ret lev MC MS) {i : Nat} {n z : Int} {lv2 : List (Nat × Value)} (hg : lget lv i = some (vi z)) (hn : i < nL) (ho : lok lv i = true) (hs : lset lv i (vi (z + n)) = lv2) (d : decode cc pc = .ok (.iinc i n, 3)) (kk : Go G X nL Q cells slots nx (pc + 3) lv2 st h) : Go G X nL Q cells slots nx pc lv st h := by
  obtain ⟨p, l, e, R, s, m, args, below, meth, c⟩ := X
  obtain ⟨hla, hx, hb, hml, hown, hts, hK, hr, hlocks, hB, hnm, hnw, hfr, hlo, hce, hsl⟩ := k
  intro H locs ls hR hz hS hl
  obtain ⟨j, hj⟩ := List.getElem?_of_mem (lget_in hg)
  refine lv_iinc (v := Int32.ofInt (z + n)) hx hb d hl hj (Int32.ofInt_add z n).symm hn rfl (fun ls2 hl2 => kk H locs ls2 hR hz hS ⟨hl2.1, hl2.2.1, fun q hq => ?_⟩)
  rw [← hs] at hq
  rcases lset_in ho q hq with rfl | ⟨h1, h2, h3⟩
  · exact hl2.2.2 _ List.mem_cons_self
  · refine hl2.2.2 _ (List.mem_cons_of_mem _ (List.mem_filter.mpr ⟨h1, ?_⟩))
    simp only [Bool.and_eq_true, Bool.not_eq_true', beq_eq_false_iff_ne, Bool.and_eq_false_iff]
    refine ⟨h2, ?_⟩
    by_cases z1 : q.1 + 1 = i
    · exact Or.inr (fun z2 => h3 ⟨z1, z2⟩)
    · exact Or.inl z1
theorem g_icmp_eq (k : Ok G X own nm cc nL ret lev MC MS) {a b off : Int} {tgt : Nat} (ra : -2147483648 ≤ a ∧ a ≤ 2147483647) (rb : -2147483648 ≤ b ∧ b ≤ 2147483647) (d : decode cc pc = .ok (.if_icmp .eq off, 3)) (ht : (pc : Int) + off = (tgt : Int)) (kt : a = b → Go G X nL Q cells slots nx tgt lv st h) (kf : ¬ a = b → Go G X nL Q cells slots nx (pc + 3) lv st h) : Go G X nL Q cells slots nx pc lv (vi b :: vi a :: st) h := by
  obtain ⟨p, l, e, R, s, m, args, below, meth, c⟩ := X
  obtain ⟨hla, hx, hb, hml, hown, hts, hK, hr, hlocks, hB, hnm, hnw, hfr, hlo, hce, hsl⟩ := k
  intro H locs ls hR hz hS hl
  exact lv_icmp_eq hx hb d ht (fun z => kt ((iEq ra rb).mp z) H locs ls hR hz hS hl) (fun z => kf (fun q => z ((iEq ra rb).mpr q)) H locs ls hR hz hS hl)
theorem g_icmp_ne (k : Ok G X own nm cc nL ret lev MC MS) {a b off : Int} {tgt : Nat} (ra : -2147483648 ≤ a ∧ a ≤ 2147483647) (rb : -2147483648 ≤ b ∧ b ≤ 2147483647) (d : decode cc pc = .ok (.if_icmp .ne off, 3)) (ht : (pc : Int) + off = (tgt : Int)) (kt : ¬ a = b → Go G X nL Q cells slots nx tgt lv st h) (kf : a = b → Go G X nL Q cells slots nx (pc + 3) lv st h) : Go G X nL Q cells slots nx pc lv (vi b :: vi a :: st) h := by
  obtain ⟨p, l, e, R, s, m, args, below, meth, c⟩ := X
  obtain ⟨hla, hx, hb, hml, hown, hts, hK, hr, hlocks, hB, hnm, hnw, hfr, hlo, hce, hsl⟩ := k
  intro H locs ls hR hz hS hl
  exact lv_icmp_ne hx hb d ht (fun z => kt (fun q => z ((iEq ra rb).mpr q)) H locs ls hR hz hS hl) (fun z => kf ((iEq ra rb).mp z) H locs ls hR hz hS hl)
theorem g_icmp_lt (k : Ok G X own nm cc nL ret lev MC MS) {a b off : Int} {tgt : Nat} (ra : -2147483648 ≤ a ∧ a ≤ 2147483647) (rb : -2147483648 ≤ b ∧ b ≤ 2147483647) (d : decode cc pc = .ok (.if_icmp .lt off, 3)) (ht : (pc : Int) + off = (tgt : Int)) (kt : a < b → Go G X nL Q cells slots nx tgt lv st h) (kf : b ≤ a → Go G X nL Q cells slots nx (pc + 3) lv st h) : Go G X nL Q cells slots nx pc lv (vi b :: vi a :: st) h := by
  obtain ⟨p, l, e, R, s, m, args, below, meth, c⟩ := X
  obtain ⟨hla, hx, hb, hml, hown, hts, hK, hr, hlocks, hB, hnm, hnw, hfr, hlo, hce, hsl⟩ := k
  intro H locs ls hR hz hS hl
  exact lv_icmp_lt hx hb d ht (fun z => kt ((iLt ra rb).mp z) H locs ls hR hz hS hl) (fun z => kf (Int.not_lt.mp (fun q => z ((iLt ra rb).mpr q))) H locs ls hR hz hS hl)
theorem g_icmp_ge (k : Ok G X own nm cc nL ret lev MC MS) {a b off : Int} {tgt : Nat} (ra : -2147483648 ≤ a ∧ a ≤ 2147483647) (rb : -2147483648 ≤ b ∧ b ≤ 2147483647) (d : decode cc pc = .ok (.if_icmp .ge off, 3)) (ht : (pc : Int) + off = (tgt : Int)) (kt : b ≤ a → Go G X nL Q cells slots nx tgt lv st h) (kf : a < b → Go G X nL Q cells slots nx (pc + 3) lv st h) : Go G X nL Q cells slots nx pc lv (vi b :: vi a :: st) h := by
  obtain ⟨p, l, e, R, s, m, args, below, meth, c⟩ := X
  obtain ⟨hla, hx, hb, hml, hown, hts, hK, hr, hlocks, hB, hnm, hnw, hfr, hlo, hce, hsl⟩ := k
  intro H locs ls hR hz hS hl
  exact lv_icmp_ge hx hb d ht (fun z => kt ((iLe rb ra).mp z) H locs ls hR hz hS hl) (fun z => kf (Int.not_le.mp (fun q => z ((iLe rb ra).mpr q))) H locs ls hR hz hS hl)
theorem g_icmp_gt (k : Ok G X own nm cc nL ret lev MC MS) {a b off : Int} {tgt : Nat} (ra : -2147483648 ≤ a ∧ a ≤ 2147483647) (rb : -2147483648 ≤ b ∧ b ≤ 2147483647) (d : decode cc pc = .ok (.if_icmp .gt off, 3)) (ht : (pc : Int) + off = (tgt : Int)) (kt : b < a → Go G X nL Q cells slots nx tgt lv st h) (kf : a ≤ b → Go G X nL Q cells slots nx (pc + 3) lv st h) : Go G X nL Q cells slots nx pc lv (vi b :: vi a :: st) h := by
  obtain ⟨p, l, e, R, s, m, args, below, meth, c⟩ := X
  obtain ⟨hla, hx, hb, hml, hown, hts, hK, hr, hlocks, hB, hnm, hnw, hfr, hlo, hce, hsl⟩ := k
  intro H locs ls hR hz hS hl
  exact lv_icmp_gt hx hb d ht (fun z => kt ((iLt rb ra).mp z) H locs ls hR hz hS hl) (fun z => kf (Int.not_lt.mp (fun q => z ((iLt rb ra).mpr q))) H locs ls hR hz hS hl)
theorem g_icmp_le (k : Ok G X own nm cc nL ret lev MC MS) {a b off : Int} {tgt : Nat} (ra : -2147483648 ≤ a ∧ a ≤ 2147483647) (rb : -2147483648 ≤ b ∧ b ≤ 2147483647) (d : decode cc pc = .ok (.if_icmp .le off, 3)) (ht : (pc : Int) + off = (tgt : Int)) (kt : a ≤ b → Go G X nL Q cells slots nx tgt lv st h) (kf : b < a → Go G X nL Q cells slots nx (pc + 3) lv st h) : Go G X nL Q cells slots nx pc lv (vi b :: vi a :: st) h := by
  obtain ⟨p, l, e, R, s, m, args, below, meth, c⟩ := X
  obtain ⟨hla, hx, hb, hml, hown, hts, hK, hr, hlocks, hB, hnm, hnw, hfr, hlo, hce, hsl⟩ := k
  intro H locs ls hR hz hS hl
  exact lv_icmp_le hx hb d ht (fun z => kt ((iLe ra rb).mp z) H locs ls hR hz hS hl) (fun z => kf (Int.not_le.mp (fun q => z ((iLe ra rb).mpr q))) H locs ls hR hz hS hl)
theorem g_if_eq (k : Ok G X own nm cc nL ret lev MC MS) {a off : Int} {tgt : Nat} (ra : -2147483648 ≤ a ∧ a ≤ 2147483647) (d : decode cc pc = .ok (.ifCond .eq off, 3)) (ht : (pc : Int) + off = (tgt : Int)) (kt : a = 0 → Go G X nL Q cells slots nx tgt lv st h) (kf : ¬ a = 0 → Go G X nL Q cells slots nx (pc + 3) lv st h) : Go G X nL Q cells slots nx pc lv (vi a :: st) h := by
  obtain ⟨p, l, e, R, s, m, args, below, meth, c⟩ := X
  obtain ⟨hla, hx, hb, hml, hown, hts, hK, hr, hlocks, hB, hnm, hnw, hfr, hlo, hce, hsl⟩ := k
  intro H locs ls hR hz hS hl
  have r0 : -2147483648 ≤ (0 : Int) ∧ (0 : Int) ≤ 2147483647 := by omega
  exact lv_if_eq hx hb d ht (fun z => kt ((iEq ra r0).mp z) H locs ls hR hz hS hl) (fun z => kf (fun q => z ((iEq ra r0).mpr q)) H locs ls hR hz hS hl)
theorem g_if_ne (k : Ok G X own nm cc nL ret lev MC MS) {a off : Int} {tgt : Nat} (ra : -2147483648 ≤ a ∧ a ≤ 2147483647) (d : decode cc pc = .ok (.ifCond .ne off, 3)) (ht : (pc : Int) + off = (tgt : Int)) (kt : ¬ a = 0 → Go G X nL Q cells slots nx tgt lv st h) (kf : a = 0 → Go G X nL Q cells slots nx (pc + 3) lv st h) : Go G X nL Q cells slots nx pc lv (vi a :: st) h := by
  obtain ⟨p, l, e, R, s, m, args, below, meth, c⟩ := X
  obtain ⟨hla, hx, hb, hml, hown, hts, hK, hr, hlocks, hB, hnm, hnw, hfr, hlo, hce, hsl⟩ := k
  intro H locs ls hR hz hS hl
  have r0 : -2147483648 ≤ (0 : Int) ∧ (0 : Int) ≤ 2147483647 := by omega
  exact lv_if_ne hx hb d ht (fun z => kt (fun q => z ((iEq ra r0).mpr q)) H locs ls hR hz hS hl) (fun z => kf ((iEq ra r0).mp z) H locs ls hR hz hS hl)
theorem g_if_lt (k : Ok G X own nm cc nL ret lev MC MS) {a off : Int} {tgt : Nat} (ra : -2147483648 ≤ a ∧ a ≤ 2147483647) (d : decode cc pc = .ok (.ifCond .lt off, 3)) (ht : (pc : Int) + off = (tgt : Int)) (kt : a < 0 → Go G X nL Q cells slots nx tgt lv st h) (kf : 0 ≤ a → Go G X nL Q cells slots nx (pc + 3) lv st h) : Go G X nL Q cells slots nx pc lv (vi a :: st) h := by
  obtain ⟨p, l, e, R, s, m, args, below, meth, c⟩ := X
  obtain ⟨hla, hx, hb, hml, hown, hts, hK, hr, hlocks, hB, hnm, hnw, hfr, hlo, hce, hsl⟩ := k
  intro H locs ls hR hz hS hl
  have r0 : -2147483648 ≤ (0 : Int) ∧ (0 : Int) ≤ 2147483647 := by omega
  exact lv_if_lt hx hb d ht (fun z => kt ((iLt ra r0).mp z) H locs ls hR hz hS hl) (fun z => kf (Int.not_lt.mp (fun q => z ((iLt ra r0).mpr q))) H locs ls hR hz hS hl)
theorem g_if_ge (k : Ok G X own nm cc nL ret lev MC MS) {a off : Int} {tgt : Nat} (ra : -2147483648 ≤ a ∧ a ≤ 2147483647) (d : decode cc pc = .ok (.ifCond .ge off, 3)) (ht : (pc : Int) + off = (tgt : Int)) (kt : 0 ≤ a → Go G X nL Q cells slots nx tgt lv st h) (kf : a < 0 → Go G X nL Q cells slots nx (pc + 3) lv st h) : Go G X nL Q cells slots nx pc lv (vi a :: st) h := by
  obtain ⟨p, l, e, R, s, m, args, below, meth, c⟩ := X
  obtain ⟨hla, hx, hb, hml, hown, hts, hK, hr, hlocks, hB, hnm, hnw, hfr, hlo, hce, hsl⟩ := k
  intro H locs ls hR hz hS hl
  have r0 : -2147483648 ≤ (0 : Int) ∧ (0 : Int) ≤ 2147483647 := by omega
  exact lv_if_ge hx hb d ht (fun z => kt ((iLe r0 ra).mp z) H locs ls hR hz hS hl) (fun z => kf (Int.not_le.mp (fun q => z ((iLe r0 ra).mpr q))) H locs ls hR hz hS hl)
theorem g_if_gt (k : Ok G X own nm cc nL ret lev MC MS) {a off : Int} {tgt : Nat} (ra : -2147483648 ≤ a ∧ a ≤ 2147483647) (d : decode cc pc = .ok (.ifCond .gt off, 3)) (ht : (pc : Int) + off = (tgt : Int)) (kt : 0 < a → Go G X nL Q cells slots nx tgt lv st h) (kf : a ≤ 0 → Go G X nL Q cells slots nx (pc + 3) lv st h) : Go G X nL Q cells slots nx pc lv (vi a :: st) h := by
  obtain ⟨p, l, e, R, s, m, args, below, meth, c⟩ := X
  obtain ⟨hla, hx, hb, hml, hown, hts, hK, hr, hlocks, hB, hnm, hnw, hfr, hlo, hce, hsl⟩ := k
  intro H locs ls hR hz hS hl
  have r0 : -2147483648 ≤ (0 : Int) ∧ (0 : Int) ≤ 2147483647 := by omega
  exact lv_if_gt hx hb d ht (fun z => kt ((iLt r0 ra).mp z) H locs ls hR hz hS hl) (fun z => kf (Int.not_lt.mp (fun q => z ((iLt r0 ra).mpr q))) H locs ls hR hz hS hl)
theorem g_if_le (k : Ok G X own nm cc nL ret lev MC MS) {a off : Int} {tgt : Nat} (ra : -2147483648 ≤ a ∧ a ≤ 2147483647) (d : decode cc pc = .ok (.ifCond .le off, 3)) (ht : (pc : Int) + off = (tgt : Int)) (kt : a ≤ 0 → Go G X nL Q cells slots nx tgt lv st h) (kf : 0 < a → Go G X nL Q cells slots nx (pc + 3) lv st h) : Go G X nL Q cells slots nx pc lv (vi a :: st) h := by
  obtain ⟨p, l, e, R, s, m, args, below, meth, c⟩ := X
  obtain ⟨hla, hx, hb, hml, hown, hts, hK, hr, hlocks, hB, hnm, hnw, hfr, hlo, hce, hsl⟩ := k
  intro H locs ls hR hz hS hl
  have r0 : -2147483648 ≤ (0 : Int) ∧ (0 : Int) ≤ 2147483647 := by omega
  exact lv_if_le hx hb d ht (fun z => kt ((iLe ra r0).mp z) H locs ls hR hz hS hl) (fun z => kf (Int.not_le.mp (fun q => z ((iLe ra r0).mpr q))) H locs ls hR hz hS hl)
theorem g_goto (k : Ok G X own nm cc nL ret lev MC MS) {off : Int} {tgt : Nat} (d : decode cc pc = .ok (.goto off, 3)) (ht : (pc : Int) + off = (tgt : Int)) (kk : Go G X nL Q cells slots nx tgt lv st h) : Go G X nL Q cells slots nx pc lv st h := by
  obtain ⟨p, l, e, R, s, m, args, below, meth, c⟩ := X
  obtain ⟨hla, hx, hb, hml, hown, hts, hK, hr, hlocks, hB, hnm, hnw, hfr, hlo, hce, hsl⟩ := k
  intro H locs ls hR hz hS hl
  exact lv_goto hx hb d ht (kk H locs ls hR hz hS hl)
theorem g_tabOut (k : Ok G X own nm cc nL ret lev MC MS) {a dflt lo hi : Int} {offs : Array Int} {len tgt : Nat} (ra : -2147483648 ≤ a ∧ a ≤ 2147483647) (hh : a < lo ∨ hi < a) (d : decode cc pc = .ok (.tableswitch dflt lo hi offs, len)) (ht : (pc : Int) + dflt = (tgt : Int)) (kk : Go G X nL Q cells slots nx tgt lv st h) : Go G X nL Q cells slots nx pc lv (vi a :: st) h := by
  obtain ⟨p, l, e, R, s, m, args, below, meth, c⟩ := X
  obtain ⟨hla, hx, hb, hml, hown, hts, hK, hr, hlocks, hB, hnm, hnw, hfr, hlo, hce, hsl⟩ := k
  intro H locs ls hR hz hS hl
  exact lv_tableOut hx hb d (by rw [iT ra]; exact hh) ht (kk H locs ls hR hz hS hl)
theorem g_tabIn (k : Ok G X own nm cc nL ret lev MC MS) {a dflt lo hi off : Int} {offs : Array Int} {len tgt : Nat} (ra : -2147483648 ≤ a ∧ a ≤ 2147483647) (h1 : lo ≤ a) (h2 : a ≤ hi) (ho : offs[(a - lo).toNat]? = some off) (d : decode cc pc = .ok (.tableswitch dflt lo hi offs, len)) (ht : (pc : Int) + off = (tgt : Int)) (kk : Go G X nL Q cells slots nx tgt lv st h) : Go G X nL Q cells slots nx pc lv (vi a :: st) h := by
  obtain ⟨p, l, e, R, s, m, args, below, meth, c⟩ := X
  obtain ⟨hla, hx, hb, hml, hown, hts, hK, hr, hlocks, hB, hnm, hnw, hfr, hlo, hce, hsl⟩ := k
  intro H locs ls hR hz hS hl
  exact lv_tableIn hx hb d (by rw [iT ra]; omega) (by rw [iT ra]; omega) (by rw [iT ra]; exact ho) ht (kk H locs ls hR hz hS hl)
theorem g_less {lv2 : List (Nat × Value)} (hs : lsb lv lv2) (kk : Go G X nL Q cells slots nx pc lv2 st h) : Go G X nL Q cells slots nx pc lv st h := by
  obtain ⟨p, l, e, R, s, m, args, below, meth, c⟩ := X
  intro H locs ls hR hz hS hl
  exact kk H locs ls hR hz hS ⟨hl.1, hl.2.1, fun q hq => hl.2.2 _ (lget_in (lsb_get hs q hq))⟩
theorem g_nm {a : Int} (kk : ∀ x : Int, x = a → Go G X nL Q cells slots nx pc lv (vi x :: st) h) : Go G X nL Q cells slots nx pc lv (vi a :: st) h := kk a rfl
theorem g_nml {a : Int} (kk : ∀ x : Int, x = a → Go G X nL Q cells slots nx pc lv (vl x :: st) h) : Go G X nL Q cells slots nx pc lv (vl a :: st) h := kk a rfl
end GO
