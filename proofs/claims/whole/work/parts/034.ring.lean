/-! Ring: an object of three cells -/
def wt (k : Nat) : Int := if k = 0 then 1 else -1
theorem wt_b (k : Nat) : -1 ≤ wt k ∧ wt k ≤ 1 := by unfold wt; split <;> omega
theorem iush {n k : Nat} (h : n < 4294967296) : (n : Int) % 4294967296 / 2 ^ (k : Int).toNat = ((n / 2 ^ k : Nat) : Int) := by
  rw [Int.emod_eq_of_lt (by omega) (by omega), Int.toNat_natCast, Int.natCast_ediv, Int.natCast_pow]
  rfl
def pc8 (n : Nat) : Nat := n % 2 + n / 2 % 2 + n / 4 % 2 + n / 8 % 2 + n / 16 % 2 + n / 32 % 2 + n / 64 % 2 + n / 128 % 2
def bcA (n : Nat) : Nat := n - (n / 2 &&& 1431655765)
def bcB (n : Nat) : Nat := (n &&& 858993459) + (n / 4 &&& 858993459)
def bcC (n : Nat) : Nat := n + n / 16 &&& 252645135
def bcD (n : Nat) : Nat := n + n / 256
def bcE (n : Nat) : Nat := n + n / 65536
theorem bc_pc : ∀ n : Nat, n < 256 → bcE (bcD (bcC (bcB (bcA n)))) % 64 = pc8 n := by decide +kernel
theorem land_le {a b : Nat} : a &&& b ≤ a := Nat.and_le_left
set_option maxHeartbeats 600000 in
set_option maxRecDepth 100000 in
theorem c_J6_bitCount {G : Gx} {h : Hp} {nx n : Nat} (hn : n < 256) : Con G yJ6_bitCount_0f7a4 cJ6_bitCount_0f7a4 1 (some .int) 1 0 0 [vi (n : Int)] h nx (PI fun z h' => h' = h ∧ z = (pc8 n : Nat)) := by
  have l1 : (n / 2 ^ 1 &&& 1431655765) ≤ n / 2 ^ 1 := land_le
  have a1 : n / 2 ^ 1 ≤ n := Nat.div_le_self _ _
  have b1 : bcA n ≤ 255 := by unfold bcA; omega
  have b2 : bcB (bcA n) ≤ 510 := by unfold bcB; have := @land_le (bcA n) 858993459; have := @land_le (bcA n / 4) 858993459; have := Nat.div_le_self (bcA n) 4; omega
  have b3 : bcC (bcB (bcA n)) ≤ 1020 := by unfold bcC; have := @land_le (bcB (bcA n) + bcB (bcA n) / 16) 252645135; have := Nat.div_le_self (bcB (bcA n)) 16; omega
  have b4 : bcD (bcC (bcB (bcA n))) ≤ 2040 := by unfold bcD; have := Nat.div_le_self (bcC (bcB (bcA n))) 256; omega
  have b5 : bcE (bcD (bcC (bcB (bcA n)))) ≤ 4080 := by unfold bcE; have := Nat.div_le_self (bcD (bcC (bcB (bcA n)))) 65536; omega
  refine Con.of v_J6_bitCount_0f7a4.2.2.2.2.1 (Nat.le_of_ble_eq_true rfl) (lv := [(0, vi (n : Int))]) rfl (fun X k => ?_)
  generalize hQQ : QM G X nx 0 0 _ = QQ
  refine g_iload_n k rfl dJ6_bitCount_0f7a4_0 ?_
  refine g_iload_n k rfl dJ6_bitCount_0f7a4_1 ?_
  refine g_iconst k dJ6_bitCount_0f7a4_2 ?_
  refine g_iushr k (by omega) dJ6_bitCount_0f7a4_3 ?_
  rw [show (n : Int) % 4294967296 / 2 ^ (1 : Int).toNat = ((n / 2 ^ 1 : Nat) : Int) from iush (by omega)]
  refine g_ldcw k (z := 1431655765) cn_J6_265 rfl dJ6_bitCount_0f7a4_4 ?_
  refine g_iand k (a := n / 2 ^ 1) (b := 1431655765) (by omega) (by omega) dJ6_bitCount_0f7a4_7 ?_
  refine g_isub k dJ6_bitCount_0f7a4_8 ?_
  rw [show (n : Int) - ((n / 2 ^ 1 &&& 1431655765 : Nat) : Int) = ((bcA n : Nat) : Int) from (by unfold bcA; rw [show n / 2 = n / 2 ^ 1 from rfl]; omega)]
  refine g_istore_n k (lv2 := [(0, vi ((bcA n : Nat) : Int))]) (by decide) rfl rfl dJ6_bitCount_0f7a4_9 ?_
  refine g_iload_n k rfl dJ6_bitCount_0f7a4_10 ?_
  refine g_ldcw k (z := 858993459) cn_J6_266 rfl dJ6_bitCount_0f7a4_11 ?_
  refine g_iand k (a := bcA n) (b := 858993459) (by omega) (by omega) dJ6_bitCount_0f7a4_14 ?_
  refine g_iload_n k rfl dJ6_bitCount_0f7a4_15 ?_
  refine g_iconst k dJ6_bitCount_0f7a4_16 ?_
  refine g_iushr k (by omega) dJ6_bitCount_0f7a4_17 ?_
  rw [show ((bcA n : Nat) : Int) % 4294967296 / 2 ^ (2 : Int).toNat = ((bcA n / 2 ^ 2 : Nat) : Int) from iush (by omega)]
  refine g_ldcw k (z := 858993459) cn_J6_266 rfl dJ6_bitCount_0f7a4_18 ?_
  refine g_iand k (a := bcA n / 2 ^ 2) (b := 858993459) (by have := Nat.div_le_self (bcA n) (2 ^ 2); omega) (by have := Nat.div_le_self (bcA n) (2 ^ 2); omega) dJ6_bitCount_0f7a4_21 ?_
  refine g_iadd k dJ6_bitCount_0f7a4_22 ?_
  rw [show ((bcA n &&& 858993459 : Nat) : Int) + ((bcA n / 2 ^ 2 &&& 858993459 : Nat) : Int) = ((bcB (bcA n) : Nat) : Int) from rfl]
  refine g_istore_n k (lv2 := [(0, vi ((bcB (bcA n) : Nat) : Int))]) (by decide) rfl rfl dJ6_bitCount_0f7a4_23 ?_
  refine g_iload_n k rfl dJ6_bitCount_0f7a4_24 ?_
  refine g_iload_n k rfl dJ6_bitCount_0f7a4_25 ?_
  refine g_iconst k dJ6_bitCount_0f7a4_26 ?_
  refine g_iushr k (by omega) dJ6_bitCount_0f7a4_27 ?_
  rw [show ((bcB (bcA n) : Nat) : Int) % 4294967296 / 2 ^ (4 : Int).toNat = ((bcB (bcA n) / 2 ^ 4 : Nat) : Int) from iush (by omega)]
  refine g_iadd k dJ6_bitCount_0f7a4_28 ?_
  rw [show ((bcB (bcA n) : Nat) : Int) + ((bcB (bcA n) / 2 ^ 4 : Nat) : Int) = ((bcB (bcA n) + bcB (bcA n) / 2 ^ 4 : Nat) : Int) from rfl]
  refine g_ldcw k (z := 252645135) cn_J6_267 rfl dJ6_bitCount_0f7a4_29 ?_
  refine g_iand k (a := bcB (bcA n) + bcB (bcA n) / 2 ^ 4) (b := 252645135) (by have := Nat.div_le_self (bcB (bcA n)) (2 ^ 4); omega) (by have := Nat.div_le_self (bcB (bcA n)) (2 ^ 4); omega) dJ6_bitCount_0f7a4_32 ?_
  rw [show ((bcB (bcA n) + bcB (bcA n) / 2 ^ 4 &&& 252645135 : Nat) : Int) = ((bcC (bcB (bcA n)) : Nat) : Int) from rfl]
  refine g_istore_n k (lv2 := [(0, vi ((bcC (bcB (bcA n)) : Nat) : Int))]) (by decide) rfl rfl dJ6_bitCount_0f7a4_33 ?_
  refine g_iload_n k rfl dJ6_bitCount_0f7a4_34 ?_
  refine g_iload_n k rfl dJ6_bitCount_0f7a4_35 ?_
  refine g_bipush k rfl dJ6_bitCount_0f7a4_36 ?_
  refine g_iushr k (by omega) dJ6_bitCount_0f7a4_38 ?_
  rw [show ((bcC (bcB (bcA n)) : Nat) : Int) % 4294967296 / 2 ^ (8 : Int).toNat = ((bcC (bcB (bcA n)) / 2 ^ 8 : Nat) : Int) from iush (by omega)]
  refine g_iadd k dJ6_bitCount_0f7a4_39 ?_
  rw [show ((bcC (bcB (bcA n)) : Nat) : Int) + ((bcC (bcB (bcA n)) / 2 ^ 8 : Nat) : Int) = ((bcD (bcC (bcB (bcA n))) : Nat) : Int) from rfl]
  refine g_istore_n k (lv2 := [(0, vi ((bcD (bcC (bcB (bcA n))) : Nat) : Int))]) (by decide) rfl rfl dJ6_bitCount_0f7a4_40 ?_
  refine g_iload_n k rfl dJ6_bitCount_0f7a4_41 ?_
  refine g_iload_n k rfl dJ6_bitCount_0f7a4_42 ?_
  refine g_bipush k rfl dJ6_bitCount_0f7a4_43 ?_
  refine g_iushr k (by omega) dJ6_bitCount_0f7a4_45 ?_
  rw [show ((bcD (bcC (bcB (bcA n))) : Nat) : Int) % 4294967296 / 2 ^ (16 : Int).toNat = ((bcD (bcC (bcB (bcA n))) / 2 ^ 16 : Nat) : Int) from iush (by omega)]
  refine g_iadd k dJ6_bitCount_0f7a4_46 ?_
  rw [show ((bcD (bcC (bcB (bcA n))) : Nat) : Int) + ((bcD (bcC (bcB (bcA n))) / 2 ^ 16 : Nat) : Int) = ((bcE (bcD (bcC (bcB (bcA n)))) : Nat) : Int) from rfl]
  refine g_istore_n k (lv2 := [(0, vi ((bcE (bcD (bcC (bcB (bcA n)))) : Nat) : Int))]) (by decide) rfl rfl dJ6_bitCount_0f7a4_47 ?_
  refine g_iload_n k rfl dJ6_bitCount_0f7a4_48 ?_
  refine g_bipush k rfl dJ6_bitCount_0f7a4_49 ?_
  refine g_iandm k 6 (by decide) (by decide) dJ6_bitCount_0f7a4_51 ?_
  rw [show ((bcE (bcD (bcC (bcB (bcA n)))) : Nat) : Int) % 2 ^ 6 = ((bcE (bcD (bcC (bcB (bcA n)))) % 64 : Nat) : Int) from rfl]
  rw [← hQQ]
  refine g_ireti k rfl dJ6_bitCount_0f7a4_52 ?_
  exact ⟨rfl, by rw [bc_pc n hn]⟩

set_option maxHeartbeats 600000 in
set_option maxRecDepth 100000 in
theorem c_J7_fill {G : Gx} {h : Hp} {nx a n : Nat} {f : Nat → Int} {x : Int} (hm : h a = some (ai G n f)) (hn : n < 2147483648) : Con G yJ7_fill_53178 cJ7_fill_53178 4 none 1 0 0 [.ref a, vi x] h nx (PV fun h' => h' a = some (ai G n (fun _ => x)) ∧ ∀ q : Nat, (q < a ∨ a < q) → h' q = h q) := by
  refine Con.of v_J7_fill_53178.2.2.2.2.1 (Nat.le_of_ble_eq_true rfl) (lv := [(0, .ref a), (1, vi x)]) rfl (fun X k => ?_)
  generalize hQQ : QM G X nx 0 0 _ = QQ
  have fr0 : ∀ q : Nat, (q < a ∨ a < q) → h q = h q := fun _ _ => rfl
  refine g_iconst k dJ7_fill_53178_0 ?_
  refine g_istore_n k (lv2 := [(0, .ref a), (1, vi x), (2, vi 0)]) (by decide) rfl rfl dJ7_fill_53178_1 ?_
  refine g_aload_n k rfl dJ7_fill_53178_2 ?_
  refine g_alen k hm dJ7_fill_53178_3 ?_
  refine g_istore_n k (lv2 := [(0, .ref a), (1, vi x), (2, vi 0), (3, vi (n : Int))]) (by decide) rfl rfl dJ7_fill_53178_4 ?_
  have K5 : ∀ (nz : Nat) (v : Nat) (g : Nat → Int) (h5 : Hp) (hm_ : h5 a = some (ai G n g)) (fr_ : ∀ q : Nat, (q < a ∨ a < q) → h5 q = h q) (hv : v ≤ n) (hg : ∀ j, j < v → g j = x) (hmz : n - v < nz), Go G X 4 QQ 0 0 nx 5 [(0, .ref a), (1, vi x), (2, vi (v : Int)), (3, vi (n : Int))] [] h5 := by
    intro nz
    induction nz with
    | zero => intro v g h5 hm_ fr_ hv hg hmz; exact absurd hmz (Nat.not_lt_zero _)
    | succ nz ih5 =>
      intro v g h5 hm_ fr_ hv hg hmz
      refine g_iload_n k rfl dJ7_fill_53178_5 ?_
      refine g_iload_n k rfl dJ7_fill_53178_6 ?_
      refine g_icmp_ge k (tgt := 20) (by omega) (by omega) dJ7_fill_53178_7 (by decide) (fun c7 => ?_) (fun c7 => ?_)
      · skip
        refine g_cell (g := fun _ => x) hm_ (fun j hj => hg j (by omega)) (fun h20c eh20c => ?_)
        have hm__1 : h20c a = some (ai G n (fun _ => x)) := (congrFun eh20c _).trans hup_s
        have fr__1 : ∀ q : Nat, (q < a ∨ a < q) → h20c q = h q := fun q hq => (congrFun eh20c q).trans ((hup_n (by omega)).trans (fr_ q hq))
        rw [← hQQ]
        refine g_retv k rfl dJ7_fill_53178_20 ?_
        exact ⟨hm__1, fr__1⟩
      · skip
        refine g_aload_n k rfl dJ7_fill_53178_10 ?_
        refine g_iload_n k rfl dJ7_fill_53178_11 ?_
        refine g_iload_n k rfl dJ7_fill_53178_12 ?_
        refine g_iast k v hm_ (by omega) (by omega) hn dJ7_fill_53178_13 (fun h13 eh13 => ?_)
        have hm__2 : h13 a = some (ai G n (fu g v x)) := (congrFun eh13 _).trans hup_s
        have fr__2 : ∀ q : Nat, (q < a ∨ a < q) → h13 q = h q := fun q hq => (congrFun eh13 q).trans ((hup_n (by omega)).trans (fr_ q hq))
        refine g_iinc k (lv2 := [(0, .ref a), (1, vi x), (2, vi ((v : Int) + 1)), (3, vi (n : Int))]) rfl (by decide) rfl rfl dJ7_fill_53178_14 ?_
        refine g_goto k (tgt := 5) dJ7_fill_53178_17 (by decide) ?_
        exact ih5 (v + 1) (fu g v x) h13 hm__2 fr__2 (by omega) (lt_s2 (fun j hj => (fu_n (by omega)).trans (hg j hj)) fu_s) (by omega)
  exact K5 _ 0 f h hm fr0 (Nat.zero_le _) (fun j hj => absurd hj (Nat.not_lt_zero j)) (Nat.lt_succ_self _)

/-- the ring's cells: how many, how many BEFORE, from, to, the row, the sums -/
def GA (G : Gx) (h : Hp) (a : Nat) (n c x y : Int) (rw S : Nat → Int) : Prop := h a = some (ob 5 [vi n, vi c, vi x, vi y, .ref (a + 1), .ref (a + 2)]) ∧ h (a + 1) = some (ai G 8 rw) ∧ h (a + 2) = some (ai G 64 S)
/-- level by level small -/
def Ls (S : Nat → Int) : Prop := ∀ j, j < 64 → S j = -1000000000 ∨ (-((j / 8 : Nat) : Int) ≤ S j ∧ S j ≤ ((j / 8 : Nat) : Int))
def rsF (S : Nat → Int) (n u v : Nat) (c : Int) : Nat → Int := if S ((n - 1) * 8 + v) = -1000000000 ∨ S ((n - 1) * 8 + v) + c ≤ S (n * 8 + u) then S else fu S (n * 8 + u) (S ((n - 1) * 8 + v) + c)
theorem rsF_ls {S : Nat → Int} {n u v : Nat} {c : Int} (h : Ls S) (hn : 1 ≤ n ∧ n < 8) (hv : v < 8) (hu : u < 8) (hc : -1 ≤ c ∧ c ≤ 1) : Ls (rsF S n u v c) := by
  intro j hj
  unfold rsF
  split
  · exact h j hj
  · rename_i q
    by_cases e : j = n * 8 + u
    · subst e
      rw [fu_s]
      have := h ((n - 1) * 8 + v) (by omega)
      omega
    · rw [fu_n e]; exact h j hj
def fwB (x j : Nat) : Int := if j = x then 0 else -1000000000
def fwK (φ : Fs) (w n : Nat) (S : Nat → Int) : Nat → (Nat → Int)
  | 0 => S
  | c + 1 => if w / 2 ^ c % 2 = 0 then (if kd φ c = 1 then rsF (rsF (fwK φ w n S c) n (fi φ c) (se φ c) (wt (kd φ c))) n (se φ c) (fi φ c) (-1) else rsF (fwK φ w n S c) n (fi φ c) (se φ c) (wt (kd φ c))) else fwK φ w n S c
/-- the sums of rows of so many facts that end at x, levels 1 to m -/
def fwL (φ : Fs) (w x : Nat) : Nat → (Nat → Int)
  | 0 => fwB x
  | m + 1 => fwK φ w (m + 1) (fwL φ w x m) φ.length
theorem fwK_ls {φ : Fs} {w n : Nat} {S : Nat → Int} {it : Nat} (hS : Sm it φ) (h : Ls S) (hn : 1 ≤ n ∧ n < 8) : ∀ c, c ≤ φ.length → Ls (fwK φ w n S c)
  | 0, _ => h
  | c + 1, hc => by
    have ih := fwK_ls (w := w) hS h hn c (by omega)
    have b := hS.2.2 c (by omega)
    have h8 := hS.1
    unfold fwK
    split
    · split
      · exact rsF_ls (rsF_ls ih hn (by omega) (by omega) (wt_b _)) hn (by omega) (by omega) (by omega)
      · exact rsF_ls ih hn (by omega) (by omega) (wt_b _)
    · exact ih
theorem fwL_ls {φ : Fs} {w x it : Nat} (hS : Sm it φ) (hx : x < 8) : ∀ m, m < 8 → Ls (fwL φ w x m)
  | 0, _ => fun j hj => by unfold fwL fwB; split <;> omega
  | m + 1, hm => fwK_ls hS (fwL_ls hS hx m (by omega)) (by omega) _ (Nat.le_refl _)
/-- by n other facts a ring goes by a new fact of kind k from x to y -/
def hit (φ : Fs) (w k x y n : Nat) : Prop := 1 ≤ n ∧ ¬ fwL φ w x n (n * 8 + y) = -1000000000 ∧ 0 ≤ fwL φ w x n (n * 8 + y) + wt k
noncomputable def fews (φ : Fs) (w it k x y : Nat) : Nat := (if sr (hit φ w k x y) it = -1 then 0 else sr (hit φ w k x y) it).toNat
theorem fews_is (φ : Fs) (w it k x y : Nat) : (fews φ w it k x y = 0 ∧ ∀ j, j < it → ¬ hit φ w k x y j) ∨ (0 < fews φ w it k x y ∧ fews φ w it k x y < it ∧ hit φ w k x y (fews φ w it k x y) ∧ ∀ j, j < fews φ w it k x y → ¬ hit φ w k x y j) := by
  unfold fews
  rcases sr_is (P := hit φ w k x y) (n := it) with ⟨e, hn⟩ | ⟨m, e, hm, hp, hl⟩
  · rw [if_pos e]; exact Or.inl ⟨rfl, hn⟩
  · rw [if_neg (by omega), e, Int.toNat_natCast]
    exact Or.inr ⟨hp.1, hm, hp, hl⟩
set_option maxHeartbeats 600000 in
set_option maxRecDepth 100000 in
theorem c_X5_weight {G : Gx} {h : Hp} {nx k1 : Nat} (hk : k1 ≤ 1) : Con G yX5_weight cX5_weight 1 (some .int) 1 0 0 [vi (k1 : Int)] h nx (PI fun z h' => h' = h ∧ z = wt k1) := by
  refine Con.of v_X5_weight.2.2.2.2.1 (Nat.le_of_ble_eq_true rfl) (lv := [(0, vi (k1 : Int))]) rfl (fun X k => ?_)
  generalize hQQ : QM G X nx 0 0 _ = QQ
  refine g_iload_n k rfl dX5_weight_0 ?_
  refine g_if_ne k (tgt := 8) (by omega) dX5_weight_1 (by decide) (fun c1 => ?_) (fun c1 => ?_)
  · skip
    refine g_iconst k dX5_weight_8 ?_
    rw [← hQQ]
    refine g_ireti k rfl dX5_weight_9 ?_
    exact ⟨rfl, by unfold wt; rw [if_neg (by omega)]⟩
  · skip
    refine g_iconst k dX5_weight_4 ?_
    refine g_goto k (tgt := 9) dX5_weight_5 (by decide) ?_
    rw [← hQQ]
    refine g_ireti k rfl dX5_weight_9 ?_
    exact ⟨rfl, by unfold wt; rw [if_pos (by omega)]⟩

set_option maxHeartbeats 600000 in
set_option maxRecDepth 100000 in
theorem c_X5_raise {G : Gx} {h : Hp} {nx a : Nat} {n0 c0 x0 y0 : Int} {r0 S0 : Nat → Int} (hA : GA G h a n0 c0 x0 y0 r0 S0) (hL : Ls S0) {n u v : Nat} {c : Int} (hn : 1 ≤ n ∧ n < 8) (hu : u < 8) (hv : v < 8) (hc : -1 ≤ c ∧ c ≤ 1) : Con G yX5_raise cX5_raise 7 none 1 0 0 [.ref a, vi (n : Int), vi (u : Int), vi (v : Int), vi c] h nx (PV fun h' => GA G h' a n0 c0 x0 y0 r0 (rsF S0 n u v c) ∧ ∀ q : Nat, (q < a ∨ a + 2 < q) → h' q = h q) := by
  obtain ⟨ha, hw, hm⟩ := hA
  have b1 := hL ((n - 1) * 8 + v) (by omega)
  have b2 := hL (n * 8 + u) (by omega)
  refine Con.of v_X5_raise.2.2.2.2.2.1 (Nat.le_of_ble_eq_true rfl) (lv := [(0, .ref a), (1, vi (n : Int)), (2, vi (u : Int)), (3, vi (v : Int)), (4, vi c)]) rfl (fun X k => ?_)
  generalize hQQ : QM G X nx 0 0 _ = QQ
  have fr0 : ∀ q : Nat, (q < a ∨ a + 2 < q) → h q = h q := fun _ _ => rfl
  refine g_aload_n k rfl dX5_raise_0 ?_
  refine g_get k 5 5 (C := RX5) (T := TX5) (N := 6) fl_X5_15 rfl wi_X5 (by decide) rfl ha rfl dX5_raise_1 ?_
  refine g_iload_n k rfl dX5_raise_4 ?_
  refine g_iconst k dX5_raise_5 ?_
  refine g_isub k dX5_raise_6 ?_
  refine g_bipush k rfl dX5_raise_7 ?_
  refine g_imul k dX5_raise_9 ?_
  refine g_iload_n k rfl dX5_raise_10 ?_
  refine g_iadd k dX5_raise_11 ?_
  refine g_iald k ((n - 1) * 8 + v) hm (by omega) (by omega) (by decide) dX5_raise_12 ?_
  refine g_istore k (lv2 := [(0, .ref a), (1, vi (n : Int)), (2, vi (u : Int)), (3, vi (v : Int)), (4, vi c), (5, vi (S0 ((n - 1) * 8 + v)))]) (by decide) rfl rfl dX5_raise_13 ?_
  refine g_iload_n k rfl dX5_raise_15 ?_
  refine g_bipush k rfl dX5_raise_16 ?_
  refine g_imul k dX5_raise_18 ?_
  refine g_iload_n k rfl dX5_raise_19 ?_
  refine g_iadd k dX5_raise_20 ?_
  refine g_istore k (lv2 := [(0, .ref a), (1, vi (n : Int)), (2, vi (u : Int)), (3, vi (v : Int)), (4, vi c), (5, vi (S0 ((n - 1) * 8 + v))), (6, vi (((n : Int) * 8) + (u : Int)))]) (by decide) rfl rfl dX5_raise_21 ?_
  refine g_iload k rfl dX5_raise_23 ?_
  refine g_ldc k (z := (-1000000000)) cn_X5_30 rfl dX5_raise_25 ?_
  refine g_icmp_eq k (tgt := 57) (by omega) (by omega) dX5_raise_27 (by decide) (fun c27 => ?_) (fun c27 => ?_)
  · skip
    rw [← hQQ]
    refine g_retv k rfl dX5_raise_57 ?_
    refine ⟨⟨ha, hw, ?_⟩, fr0⟩
    rw [rsF, if_pos (by omega)]; exact hm
  · skip
    refine g_iload k rfl dX5_raise_30 ?_
    refine g_iload k rfl dX5_raise_32 ?_
    refine g_iadd k dX5_raise_34 ?_
    refine g_aload_n k rfl dX5_raise_35 ?_
    refine g_get k 5 5 (C := RX5) (T := TX5) (N := 6) fl_X5_15 rfl wi_X5 (by decide) rfl ha rfl dX5_raise_36 ?_
    refine g_iload k rfl dX5_raise_39 ?_
    refine g_iald k (n * 8 + u) hm (by omega) (by omega) (by decide) dX5_raise_41 ?_
    refine g_icmp_le k (tgt := 57) (by omega) (by omega) dX5_raise_42 (by decide) (fun c42 => ?_) (fun c42 => ?_)
    · skip
      rw [← hQQ]
      refine g_retv k rfl dX5_raise_57 ?_
      refine ⟨⟨ha, hw, ?_⟩, fr0⟩
      rw [rsF, if_pos (by omega)]; exact hm
    · skip
      refine g_aload_n k rfl dX5_raise_45 ?_
      refine g_get k 5 5 (C := RX5) (T := TX5) (N := 6) fl_X5_15 rfl wi_X5 (by decide) rfl ha rfl dX5_raise_46 ?_
      refine g_iload k rfl dX5_raise_49 ?_
      refine g_iload k rfl dX5_raise_51 ?_
      refine g_iload k rfl dX5_raise_53 ?_
      refine g_iadd k dX5_raise_55 ?_
      refine g_iast k (n * 8 + u) hm (by omega) (by omega) (by decide) dX5_raise_56 (fun h56 eh56 => ?_)
      have ha_ : h56 a = some (ob 5 [vi n0, vi c0, vi x0, vi y0, .ref (a + 1), .ref (a + 2)]) := (congrFun eh56 _).trans ((hup_n (by omega)).trans ha)
      have hm_ : h56 (a + 2) = some (ai G 64 (fu S0 (n * 8 + u) ((S0 ((n - 1) * 8 + v)) + c))) := (congrFun eh56 _).trans hup_s
      have hw_ : h56 (a + 1) = some (ai G 8 r0) := (congrFun eh56 _).trans ((hup_n (by omega)).trans hw)
      have fr_ : ∀ q : Nat, (q < a ∨ a + 2 < q) → h56 q = h q := fun q hq => (congrFun eh56 q).trans ((hup_n (by omega)).trans (fr0 q hq))
      rw [← hQQ]
      refine g_retv k rfl dX5_raise_57 ?_
      refine ⟨⟨ha_, hw_, ?_⟩, fr_⟩
      rw [rsF, if_neg (by omega)]; exact hm_

set_option maxHeartbeats 600000 in
set_option maxRecDepth 100000 in
theorem c_X5_fewest {G : Gx} {h : Hp} {nx a : Nat} {n0 c0 x0 y0 : Int} {r0 S0 : Nat → Int} (hA : GA G h a n0 c0 x0 y0 r0 S0) {b it : Nat} {φ : Fs} (hF : FA G h b it φ) (hS : Sm it φ) (hd : a + 2 < b ∨ b + 3 < a) {w : Nat} (hw2 : w < 268435456) {k1 x y : Nat} (hk : k1 ≤ 1) (hx : x < it) (hy : y < it) : Con G yX5_fewest cX5_fewest 8 (some .int) 2 0 0 [.ref a, .ref b, vi (w : Int), vi (k1 : Int), vi (x : Int), vi (y : Int)] h nx (PI fun z h' => z = (fews φ w it k1 x y : Nat) ∧ (∃ S1 : Nat → Int, GA G h' a n0 c0 x0 y0 r0 S1 ∧ (0 < fews φ w it k1 x y → S1 = fwL φ w x (fews φ w it k1 x y))) ∧ ∀ q : Nat, (q < a ∨ a + 2 < q) → h' q = h q) := by
  obtain ⟨ha, hw, hm⟩ := hA
  obtain ⟨K, F, Z, hb, hbk, hbf, hbs, hr⟩ := hF
  obtain ⟨h8, h28, hsm⟩ := id hS
  refine Con.of v_X5_fewest.2.2.2.2.2.1 (Nat.le_of_ble_eq_true rfl) (lv := [(0, .ref a), (1, .ref b), (2, vi (w : Int)), (3, vi (k1 : Int)), (4, vi (x : Int)), (5, vi (y : Int))]) rfl (fun X k => ?_)
  generalize hQQ : QM G X nx 0 0 _ = QQ
  have fr0 : ∀ q : Nat, (q < a ∨ a + 2 < q) → h q = h q := fun _ _ => rfl
  refine g_aload_n k rfl dX5_fewest_0 ?_
  refine g_get k 5 5 (C := RX5) (T := TX5) (N := 6) fl_X5_15 rfl wi_X5 (by decide) rfl ha rfl dX5_fewest_1 ?_
  refine g_ldc k (z := (-1000000000)) cn_X5_30 rfl dX5_fewest_4 ?_
  refine g_cSv k (As := [.ref (a + 2), vi (-1000000000)]) v_J7_fill_53178 ml_X5_31 (c_J7_fill hm (by decide)) (by omega) (by omega) rfl (Nat.le_of_ble_eq_true rfl) rfl dX5_fewest_6 (fun h6 p6 => ?_)
  obtain ⟨nm, nfr⟩ := p6
  have ha_ : h6 a = some (ob 5 [vi n0, vi c0, vi x0, vi y0, .ref (a + 1), .ref (a + 2)]) := (nfr _ (by omega)).trans ha
  have hm_ : h6 (a + 2) = some (ai G 64 (fun _ => -1000000000)) := nm
  have hw_ : h6 (a + 1) = some (ai G 8 r0) := (nfr _ (by omega)).trans hw
  have hb_ : h6 b = some (ob 0 [vi (it : Int), vi (φ.length : Int), .ref (b + 1), .ref (b + 2), .ref (b + 3)]) := (nfr _ (by omega)).trans hb
  have hbk_ : h6 (b + 1) = some (ai G 28 K) := (nfr _ (by omega)).trans hbk
  have hbf_ : h6 (b + 2) = some (ai G 28 F) := (nfr _ (by omega)).trans hbf
  have hbs_ : h6 (b + 3) = some (ai G 28 Z) := (nfr _ (by omega)).trans hbs
  have fr_ : ∀ q : Nat, (q < a ∨ a + 2 < q) → h6 q = h q := fun q hq => (nfr q (by omega)).trans (fr0 q hq)
  refine g_aload_n k rfl dX5_fewest_9 ?_
  refine g_get k 5 5 (C := RX5) (T := TX5) (N := 6) fl_X5_15 rfl wi_X5 (by decide) rfl ha_ rfl dX5_fewest_10 ?_
  refine g_iload k rfl dX5_fewest_13 ?_
  refine g_iconst k dX5_fewest_15 ?_
  refine g_iast k x hm_ (by omega) (by omega) (by decide) dX5_fewest_16 (fun h16 eh16 => ?_)
  have ha__1 : h16 a = some (ob 5 [vi n0, vi c0, vi x0, vi y0, .ref (a + 1), .ref (a + 2)]) := (congrFun eh16 _).trans ((hup_n (by omega)).trans ha_)
  have hm__1 : h16 (a + 2) = some (ai G 64 (fu (fun _ => -1000000000) x 0)) := (congrFun eh16 _).trans hup_s
  have hw__1 : h16 (a + 1) = some (ai G 8 r0) := (congrFun eh16 _).trans ((hup_n (by omega)).trans hw_)
  have hb__1 : h16 b = some (ob 0 [vi (it : Int), vi (φ.length : Int), .ref (b + 1), .ref (b + 2), .ref (b + 3)]) := (congrFun eh16 _).trans ((hup_n (by omega)).trans hb_)
  have hbk__1 : h16 (b + 1) = some (ai G 28 K) := (congrFun eh16 _).trans ((hup_n (by omega)).trans hbk_)
  have hbf__1 : h16 (b + 2) = some (ai G 28 F) := (congrFun eh16 _).trans ((hup_n (by omega)).trans hbf_)
  have hbs__1 : h16 (b + 3) = some (ai G 28 Z) := (congrFun eh16 _).trans ((hup_n (by omega)).trans hbs_)
  have fr__1 : ∀ q : Nat, (q < a ∨ a + 2 < q) → h16 q = h q := fun q hq => (congrFun eh16 q).trans ((hup_n (by omega)).trans (fr_ q hq))
  refine g_cell (g := fwL φ w x 0) hm__1 (fun j hj => by show fu (fun _ => -1000000000) x 0 j = fwB x j; unfold fu fwB; rfl) (fun h17c eh17c => ?_)
  have ha__2 : h17c a = some (ob 5 [vi n0, vi c0, vi x0, vi y0, .ref (a + 1), .ref (a + 2)]) := (congrFun eh17c _).trans ((hup_n (by omega)).trans ha__1)
  have hm__2 : h17c (a + 2) = some (ai G 64 (fwL φ w x 0)) := (congrFun eh17c _).trans hup_s
  have hw__2 : h17c (a + 1) = some (ai G 8 r0) := (congrFun eh17c _).trans ((hup_n (by omega)).trans hw__1)
  have hb__2 : h17c b = some (ob 0 [vi (it : Int), vi (φ.length : Int), .ref (b + 1), .ref (b + 2), .ref (b + 3)]) := (congrFun eh17c _).trans ((hup_n (by omega)).trans hb__1)
  have hbk__2 : h17c (b + 1) = some (ai G 28 K) := (congrFun eh17c _).trans ((hup_n (by omega)).trans hbk__1)
  have hbf__2 : h17c (b + 2) = some (ai G 28 F) := (congrFun eh17c _).trans ((hup_n (by omega)).trans hbf__1)
  have hbs__2 : h17c (b + 3) = some (ai G 28 Z) := (congrFun eh17c _).trans ((hup_n (by omega)).trans hbs__1)
  have fr__2 : ∀ q : Nat, (q < a ∨ a + 2 < q) → h17c q = h q := fun q hq => (congrFun eh17c q).trans ((hup_n (by omega)).trans (fr__1 q hq))
  refine g_iconst k dX5_fewest_17 ?_
  refine g_istore k (lv2 := [(0, .ref a), (1, .ref b), (2, vi (w : Int)), (3, vi (k1 : Int)), (4, vi (x : Int)), (5, vi (y : Int)), (6, vi 1)]) (by decide) rfl rfl dX5_fewest_18 ?_
  have K20 : ∀ (nz : Nat) (n : Nat) (h20 : Hp) (ha__3 : h20 a = some (ob 5 [vi n0, vi c0, vi x0, vi y0, .ref (a + 1), .ref (a + 2)])) (hm__3 : h20 (a + 2) = some (ai G 64 (fwL φ w x (n - 1)))) (hw__3 : h20 (a + 1) = some (ai G 8 r0)) (hb__3 : h20 b = some (ob 0 [vi (it : Int), vi (φ.length : Int), .ref (b + 1), .ref (b + 2), .ref (b + 3)])) (hbk__3 : h20 (b + 1) = some (ai G 28 K)) (hbf__3 : h20 (b + 2) = some (ai G 28 F)) (hbs__3 : h20 (b + 3) = some (ai G 28 Z)) (fr__3 : ∀ q : Nat, (q < a ∨ a + 2 < q) → h20 q = h q) (hn : 1 ≤ n) (hn2 : n ≤ it ∨ n = 1) (hno : ∀ j, j < n → ¬ hit φ w k1 x y j) (hmz : it + 1 - n < nz), Go G X 8 QQ 0 0 nx 20 [(0, .ref a), (1, .ref b), (2, vi (w : Int)), (3, vi (k1 : Int)), (4, vi (x : Int)), (5, vi (y : Int)), (6, vi (n : Int))] [] h20 := by
    intro nz
    induction nz with
    | zero => intro n h20 ha__3 hm__3 hw__3 hb__3 hbk__3 hbf__3 hbs__3 fr__3 hn hn2 hno hmz; exact absurd hmz (Nat.not_lt_zero _)
    | succ nz ih20 =>
      intro n h20 ha__3 hm__3 hw__3 hb__3 hbk__3 hbf__3 hbs__3 fr__3 hn hn2 hno hmz
      refine g_iload k rfl dX5_fewest_20 ?_
      refine g_aload_n k rfl dX5_fewest_22 ?_
      refine g_get k 0 0 (C := RX0) (T := TX0) (N := 5) fl_X5_37 rfl wi_X0 (by decide) rfl hb__3 rfl dX5_fewest_23 ?_
      refine g_icmp_ge k (tgt := 162) (by omega) (by omega) dX5_fewest_26 (by decide) (fun c26 => ?_) (fun c26 => ?_)
      · skip
        refine g_iconst k dX5_fewest_162 ?_
        rw [← hQQ]
        refine g_ireti k rfl dX5_fewest_163 ?_
        have e : fews φ w it k1 x y = 0 := by unfold fews; rw [sr_miss (fun j hj => hno j (by omega)), if_pos rfl]; rfl
        rw [e]
        exact ⟨rfl, ⟨_, ⟨ha__3, hw__3, hm__3⟩, fun q => absurd q (Nat.lt_irrefl 0)⟩, fr__3⟩
      · skip
        have hls := fwL_ls (w := w) hS (show x < 8 by omega) (n - 1) (by omega)
        refine g_iconst k dX5_fewest_29 ?_
        refine g_istore k (lv2 := [(0, .ref a), (1, .ref b), (2, vi (w : Int)), (3, vi (k1 : Int)), (4, vi (x : Int)), (5, vi (y : Int)), (6, vi (n : Int)), (7, vi 0)]) (by decide) rfl rfl dX5_fewest_30 ?_
        have K32 : ∀ (nz_1 : Nat) (c : Nat) (h32 : Hp) (ha__4 : h32 a = some (ob 5 [vi n0, vi c0, vi x0, vi y0, .ref (a + 1), .ref (a + 2)])) (hm__4 : h32 (a + 2) = some (ai G 64 (fwK φ w n (fwL φ w x (n - 1)) c))) (hw__4 : h32 (a + 1) = some (ai G 8 r0)) (hb__4 : h32 b = some (ob 0 [vi (it : Int), vi (φ.length : Int), .ref (b + 1), .ref (b + 2), .ref (b + 3)])) (hbk__4 : h32 (b + 1) = some (ai G 28 K)) (hbf__4 : h32 (b + 2) = some (ai G 28 F)) (hbs__4 : h32 (b + 3) = some (ai G 28 Z)) (fr__4 : ∀ q : Nat, (q < a ∨ a + 2 < q) → h32 q = h q) (hc : c ≤ φ.length) (hmz_1 : φ.length - c < nz_1), Go G X 8 QQ 0 0 nx 32 [(0, .ref a), (1, .ref b), (2, vi (w : Int)), (3, vi (k1 : Int)), (4, vi (x : Int)), (5, vi (y : Int)), (6, vi (n : Int)), (7, vi (c : Int))] [] h32 := by
          intro nz_1
          induction nz_1 with
          | zero => intro c h32 ha__4 hm__4 hw__4 hb__4 hbk__4 hbf__4 hbs__4 fr__4 hc hmz_1; exact absurd hmz_1 (Nat.not_lt_zero _)
          | succ nz_1 ih32 =>
            intro c h32 ha__4 hm__4 hw__4 hb__4 hbk__4 hbf__4 hbs__4 fr__4 hc hmz_1
            refine g_iload k rfl dX5_fewest_32 ?_
            refine g_aload_n k rfl dX5_fewest_34 ?_
            refine g_get k 0 1 (C := RX0) (T := TX0) (N := 5) fl_X5_42 rfl wi_X0 (by decide) rfl hb__4 rfl dX5_fewest_35 ?_
            refine g_icmp_ge k (tgt := 121) (by omega) (by omega) dX5_fewest_38 (by decide) (fun c38 => ?_) (fun c38 => ?_)
            · skip
              have ec : c = φ.length := by omega
              subst ec
              have en : fwK φ w n (fwL φ w x (n - 1)) φ.length = fwL φ w x n := by rw [show n = n - 1 + 1 by omega]; rfl
              rw [en] at hm__4
              have hls2 := fwL_ls (w := w) hS (show x < 8 by omega) n (by omega)
              have b3 := hls2 (n * 8 + y) (by omega)
              have b4 := wt_b k1
              refine g_aload_n k rfl dX5_fewest_121 ?_
              refine g_get k 5 5 (C := RX5) (T := TX5) (N := 6) fl_X5_15 rfl wi_X5 (by decide) rfl ha__4 rfl dX5_fewest_122 ?_
              refine g_iload k rfl dX5_fewest_125 ?_
              refine g_bipush k rfl dX5_fewest_127 ?_
              refine g_imul k dX5_fewest_129 ?_
              refine g_iload k rfl dX5_fewest_130 ?_
              refine g_iadd k dX5_fewest_132 ?_
              refine g_iald k (n * 8 + y) hm__4 (by omega) (by omega) (by decide) dX5_fewest_133 ?_
              refine g_istore k (lv2 := [(0, .ref a), (1, .ref b), (2, vi (w : Int)), (3, vi (k1 : Int)), (4, vi (x : Int)), (5, vi (y : Int)), (6, vi (n : Int)), (7, vi ((fwL φ w x n) (n * 8 + y)))]) (by decide) rfl rfl dX5_fewest_134 ?_
              refine g_iload k rfl dX5_fewest_136 ?_
              refine g_ldc k (z := (-1000000000)) cn_X5_30 rfl dX5_fewest_138 ?_
              refine g_icmp_eq k (tgt := 156) (by omega) (by omega) dX5_fewest_140 (by decide) (fun c140 => ?_) (fun c140 => ?_)
              · skip
                refine g_iinc k (lv2 := [(0, .ref a), (1, .ref b), (2, vi (w : Int)), (3, vi (k1 : Int)), (4, vi (x : Int)), (5, vi (y : Int)), (6, vi ((n : Int) + 1)), (7, vi ((fwL φ w x n) (n * 8 + y)))]) rfl (by decide) rfl rfl dX5_fewest_156 ?_
                refine g_goto k (tgt := 20) dX5_fewest_159 (by decide) ?_
                refine g_less (lv2 := [(0, .ref a), (1, .ref b), (2, vi (w : Int)), (3, vi (k1 : Int)), (4, vi (x : Int)), (5, vi (y : Int)), (6, vi ((n : Int) + 1))]) ⟨rfl, rfl, rfl, rfl, rfl, rfl, rfl, trivial⟩ ?_
                exact ih20 (n + 1) h32 ha__4 hm__4 hw__4 hb__4 hbk__4 hbf__4 hbs__4 fr__4 (by omega) (by omega) (lt_s2 hno (by intro q; have q2 := q.2; omega)) (by omega)
              · skip
                refine g_iload k rfl dX5_fewest_143 ?_
                refine g_iload_n k rfl dX5_fewest_145 ?_
                refine g_cSi k (As := [vi (k1 : Int)]) v_X5_weight ml_X5_54 (c_X5_weight hk) (by omega) (by omega) rfl (Nat.le_of_ble_eq_true rfl) rfl dX5_fewest_146 (fun r146 h146 p146 => ?_)
                obtain ⟨eh146, p146⟩ := p146
                have eh146 := eh146.symm; subst eh146
                subst p146
                refine g_iadd k dX5_fewest_149 ?_
                refine g_if_lt k (tgt := 156) (by omega) dX5_fewest_150 (by decide) (fun c150 => ?_) (fun c150 => ?_)
                · skip
                  refine g_iinc k (lv2 := [(0, .ref a), (1, .ref b), (2, vi (w : Int)), (3, vi (k1 : Int)), (4, vi (x : Int)), (5, vi (y : Int)), (6, vi ((n : Int) + 1)), (7, vi ((fwL φ w x n) (n * 8 + y)))]) rfl (by decide) rfl rfl dX5_fewest_156 ?_
                  refine g_goto k (tgt := 20) dX5_fewest_159 (by decide) ?_
                  refine g_less (lv2 := [(0, .ref a), (1, .ref b), (2, vi (w : Int)), (3, vi (k1 : Int)), (4, vi (x : Int)), (5, vi (y : Int)), (6, vi ((n : Int) + 1))]) ⟨rfl, rfl, rfl, rfl, rfl, rfl, rfl, trivial⟩ ?_
                  exact ih20 (n + 1) h32 ha__4 hm__4 hw__4 hb__4 hbk__4 hbf__4 hbs__4 fr__4 (by omega) (by omega) (lt_s2 hno (by intro q; have q2 := q.2; omega)) (by omega)
                · skip
                  refine g_iload k rfl dX5_fewest_153 ?_
                  rw [← hQQ]
                  refine g_ireti k rfl dX5_fewest_155 ?_
                  have hh : hit φ w k1 x y n := ⟨hn, by omega, by omega⟩
                  have e : fews φ w it k1 x y = n := by unfold fews; rw [sr_hit (by omega) hh hno, if_neg (by omega), Int.toNat_natCast]
                  rw [e]
                  exact ⟨rfl, ⟨_, ⟨ha__4, hw__4, hm__4⟩, fun _ => rfl⟩, fr__4⟩
            · skip
              have hb2 := hsm c (by omega)
              have hw3 : w / 2 ^ c % 2 < 2 := Nat.mod_lt _ (by decide)
              have hlk := fwK_ls (w := w) (n := n) hS hls (by omega) c (by omega)
              refine g_iload_n k rfl dX5_fewest_41 ?_
              refine g_iload k rfl dX5_fewest_42 ?_
              refine g_ishr k (by omega) (by omega) dX5_fewest_44 ?_
              refine g_iconst k dX5_fewest_45 ?_
              refine g_iandm k 1 (by decide) (by decide) dX5_fewest_46 ?_
              rw [show ((w : Int) / 2 ^ ((c : Int)).toNat) % 2 ^ 1 = ((w / 2 ^ c % 2 : Nat) : Int) from ibit]
              refine g_if_ne k (tgt := 115) (by omega) dX5_fewest_47 (by decide) (fun c47 => ?_) (fun c47 => ?_)
              · skip
                refine g_iinc k (lv2 := [(0, .ref a), (1, .ref b), (2, vi (w : Int)), (3, vi (k1 : Int)), (4, vi (x : Int)), (5, vi (y : Int)), (6, vi (n : Int)), (7, vi ((c : Int) + 1))]) rfl (by decide) rfl rfl dX5_fewest_115 ?_
                refine g_goto k (tgt := 32) dX5_fewest_118 (by decide) ?_
                rw [show fwK φ w n (fwL φ w x (n - 1)) c = fwK φ w n (fwL φ w x (n - 1)) (c + 1) by rw [fwK, if_neg (by omega)]] at hm__4
                exact ih32 (c + 1) h32 ha__4 hm__4 hw__4 hb__4 hbk__4 hbf__4 hbs__4 fr__4 (by omega) (by omega)
              · skip
                refine g_aload_n k rfl dX5_fewest_50 ?_
                refine g_iload k rfl dX5_fewest_51 ?_
                refine g_aload_n k rfl dX5_fewest_53 ?_
                refine g_get k 0 3 (C := RX0) (T := TX0) (N := 5) fl_X5_45 rfl wi_X0 (by decide) rfl hb__4 rfl dX5_fewest_54 ?_
                refine g_iload k rfl dX5_fewest_57 ?_
                refine g_iald k c hbf__4 (by omega) (by omega) (by decide) dX5_fewest_59 ?_
                rw [show F c = (fi φ c : Int) from hr.f (by omega)]
                refine g_aload_n k rfl dX5_fewest_60 ?_
                refine g_get k 0 4 (C := RX0) (T := TX0) (N := 5) fl_X5_48 rfl wi_X0 (by decide) rfl hb__4 rfl dX5_fewest_61 ?_
                refine g_iload k rfl dX5_fewest_64 ?_
                refine g_iald k c hbs__4 (by omega) (by omega) (by decide) dX5_fewest_66 ?_
                rw [show Z c = (se φ c : Int) from hr.s (by omega)]
                refine g_aload_n k rfl dX5_fewest_67 ?_
                refine g_get k 0 2 (C := RX0) (T := TX0) (N := 5) fl_X5_51 rfl wi_X0 (by decide) rfl hb__4 rfl dX5_fewest_68 ?_
                refine g_iload k rfl dX5_fewest_71 ?_
                refine g_iald k c hbk__4 (by omega) (by omega) (by decide) dX5_fewest_73 ?_
                rw [show K c = (kd φ c : Int) from hr.t (by omega)]
                refine g_cSi k (As := [vi (kd φ c : Int)]) v_X5_weight ml_X5_54 (c_X5_weight (k1 := kd φ c) (by omega)) (by omega) (by omega) rfl (Nat.le_of_ble_eq_true rfl) rfl dX5_fewest_74 (fun r74 h74 p74 => ?_)
                obtain ⟨eh74, p74⟩ := p74
                have eh74 := eh74.symm; subst eh74
                subst p74
                refine g_cVv k 5 (As := [vi (n : Int), vi (fi φ c : Int), vi (se φ c : Int), vi (wt (kd φ c))]) v_X5_raise rfl rfl ha__4 ml_X5_58 (c_X5_raise ⟨ha__4, hw__4, hm__4⟩ hlk (by omega) (by omega) (by omega) (wt_b _)) (by omega) (by omega) rfl (Nat.le_of_ble_eq_true rfl) rfl dX5_fewest_77 (fun h77 p77 => ?_)
                obtain ⟨⟨na, nw, nm⟩, nfr⟩ := p77
                have ha__5 : h77 a = some (ob 5 [vi n0, vi c0, vi x0, vi y0, .ref (a + 1), .ref (a + 2)]) := na
                have hm__5 : h77 (a + 2) = some (ai G 64 (rsF (fwK φ w n (fwL φ w x (n - 1)) c) n (fi φ c) (se φ c) (wt (kd φ c)))) := nm
                have hw__5 : h77 (a + 1) = some (ai G 8 r0) := nw
                have hb__5 : h77 b = some (ob 0 [vi (it : Int), vi (φ.length : Int), .ref (b + 1), .ref (b + 2), .ref (b + 3)]) := (nfr _ (by omega)).trans hb__4
                have hbk__5 : h77 (b + 1) = some (ai G 28 K) := (nfr _ (by omega)).trans hbk__4
                have hbf__5 : h77 (b + 2) = some (ai G 28 F) := (nfr _ (by omega)).trans hbf__4
                have hbs__5 : h77 (b + 3) = some (ai G 28 Z) := (nfr _ (by omega)).trans hbs__4
                have fr__5 : ∀ q : Nat, (q < a ∨ a + 2 < q) → h77 q = h q := fun q hq => (nfr q (by omega)).trans (fr__4 q hq)
                refine g_aload_n k rfl dX5_fewest_80 ?_
                refine g_get k 0 2 (C := RX0) (T := TX0) (N := 5) fl_X5_51 rfl wi_X0 (by decide) rfl hb__5 rfl dX5_fewest_81 ?_
                refine g_iload k rfl dX5_fewest_84 ?_
                refine g_iald k c hbk__5 (by omega) (by omega) (by decide) dX5_fewest_86 ?_
                rw [show K c = (kd φ c : Int) from hr.t (by omega)]
                refine g_iconst k dX5_fewest_87 ?_
                refine g_icmp_ne k (tgt := 115) (by omega) (by omega) dX5_fewest_88 (by decide) (fun c88 => ?_) (fun c88 => ?_)
                · skip
                  refine g_iinc k (lv2 := [(0, .ref a), (1, .ref b), (2, vi (w : Int)), (3, vi (k1 : Int)), (4, vi (x : Int)), (5, vi (y : Int)), (6, vi (n : Int)), (7, vi ((c : Int) + 1))]) rfl (by decide) rfl rfl dX5_fewest_115 ?_
                  refine g_goto k (tgt := 32) dX5_fewest_118 (by decide) ?_
                  rw [show rsF (fwK φ w n (fwL φ w x (n - 1)) c) n (fi φ c) (se φ c) (wt (kd φ c)) = fwK φ w n (fwL φ w x (n - 1)) (c + 1) by rw [fwK, if_pos (by omega), if_neg (by omega)]] at hm__5
                  exact ih32 (c + 1) h77 ha__5 hm__5 hw__5 hb__5 hbk__5 hbf__5 hbs__5 fr__5 (by omega) (by omega)
                · skip
                  refine g_aload_n k rfl dX5_fewest_91 ?_
                  refine g_iload k rfl dX5_fewest_92 ?_
                  refine g_aload_n k rfl dX5_fewest_94 ?_
                  refine g_get k 0 4 (C := RX0) (T := TX0) (N := 5) fl_X5_48 rfl wi_X0 (by decide) rfl hb__5 rfl dX5_fewest_95 ?_
                  refine g_iload k rfl dX5_fewest_98 ?_
                  refine g_iald k c hbs__5 (by omega) (by omega) (by decide) dX5_fewest_100 ?_
                  rw [show Z c = (se φ c : Int) from hr.s (by omega)]
                  refine g_aload_n k rfl dX5_fewest_101 ?_
                  refine g_get k 0 3 (C := RX0) (T := TX0) (N := 5) fl_X5_45 rfl wi_X0 (by decide) rfl hb__5 rfl dX5_fewest_102 ?_
                  refine g_iload k rfl dX5_fewest_105 ?_
                  refine g_iald k c hbf__5 (by omega) (by omega) (by decide) dX5_fewest_107 ?_
                  rw [show F c = (fi φ c : Int) from hr.f (by omega)]
                  refine g_iconst k dX5_fewest_108 ?_
                  refine g_cSi k (As := [vi 1]) v_X5_weight ml_X5_54 (c_X5_weight (k1 := 1) (by omega)) (by omega) (by omega) rfl (Nat.le_of_ble_eq_true rfl) rfl dX5_fewest_109 (fun r109 h109 p109 => ?_)
                  obtain ⟨eh109, p109⟩ := p109
                  have eh109 := eh109.symm; subst eh109
                  subst p109
                  refine g_cVv k 5 (As := [vi (n : Int), vi (se φ c : Int), vi (fi φ c : Int), vi (wt 1)]) v_X5_raise rfl rfl ha__5 ml_X5_58 (c_X5_raise ⟨ha__5, hw__5, hm__5⟩ (rsF_ls hlk (by omega) (by omega) (by omega) (wt_b _)) (by omega) (by omega) (by omega) (wt_b 1)) (by omega) (by omega) rfl (Nat.le_of_ble_eq_true rfl) rfl dX5_fewest_112 (fun h112 p112 => ?_)
                  obtain ⟨⟨na, nw, nm⟩, nfr⟩ := p112
                  have ha__6 : h112 a = some (ob 5 [vi n0, vi c0, vi x0, vi y0, .ref (a + 1), .ref (a + 2)]) := na
                  have hm__6 : h112 (a + 2) = some (ai G 64 (rsF (rsF (fwK φ w n (fwL φ w x (n - 1)) c) n (fi φ c) (se φ c) (wt (kd φ c))) n (se φ c) (fi φ c) (-1))) := nm
                  have hw__6 : h112 (a + 1) = some (ai G 8 r0) := nw
                  have hb__6 : h112 b = some (ob 0 [vi (it : Int), vi (φ.length : Int), .ref (b + 1), .ref (b + 2), .ref (b + 3)]) := (nfr _ (by omega)).trans hb__5
                  have hbk__6 : h112 (b + 1) = some (ai G 28 K) := (nfr _ (by omega)).trans hbk__5
                  have hbf__6 : h112 (b + 2) = some (ai G 28 F) := (nfr _ (by omega)).trans hbf__5
                  have hbs__6 : h112 (b + 3) = some (ai G 28 Z) := (nfr _ (by omega)).trans hbs__5
                  have fr__6 : ∀ q : Nat, (q < a ∨ a + 2 < q) → h112 q = h q := fun q hq => (nfr q (by omega)).trans (fr__5 q hq)
                  refine g_iinc k (lv2 := [(0, .ref a), (1, .ref b), (2, vi (w : Int)), (3, vi (k1 : Int)), (4, vi (x : Int)), (5, vi (y : Int)), (6, vi (n : Int)), (7, vi ((c : Int) + 1))]) rfl (by decide) rfl rfl dX5_fewest_115 ?_
                  refine g_goto k (tgt := 32) dX5_fewest_118 (by decide) ?_
                  rw [show rsF (rsF (fwK φ w n (fwL φ w x (n - 1)) c) n (fi φ c) (se φ c) (wt (kd φ c))) n (se φ c) (fi φ c) (-1) = fwK φ w n (fwL φ w x (n - 1)) (c + 1) by rw [fwK, if_pos (by omega), if_pos (by omega)]] at hm__6
                  exact ih32 (c + 1) h112 ha__6 hm__6 hw__6 hb__6 hbk__6 hbf__6 hbs__6 fr__6 (by omega) (by omega)
        exact K32 _ 0 h20 ha__3 hm__3 hw__3 hb__3 hbk__3 hbf__3 hbs__3 fr__3 (Nat.zero_le _) (Nat.lt_succ_self _)
  exact K20 _ 1 h17c ha__2 hm__2 hw__2 hb__2 hbk__2 hbf__2 hbs__2 fr__2 (by omega) (Or.inr rfl) (fun j hj q => by have := q.1; omega) (Nat.lt_succ_self _)

/-- by fact k the ring can go on from p, with this sum so far and so many facts left behind it -/
def stp (φ : Fs) (w : Nat) (S : Nat → Int) (p : Nat) (sm : Int) (lf k : Nat) : Prop := w / 2 ^ k % 2 = 0 ∧ ¬ tgt φ k p = -1 ∧ ¬ S (lf * 8 + (tgt φ k p).toNat) = -1000000000 ∧ 0 ≤ sm + wt (kd φ k) + S (lf * 8 + (tgt φ k p).toNat)
theorem tgt_b {φ : Fs} {it k : Nat} {p : Int} (hS : Sm it φ) (hk : k < φ.length) : tgt φ k p = -1 ∨ (0 ≤ tgt φ k p ∧ tgt φ k p < it) := by
  have := hS.2.2 k hk
  unfold tgt
  split
  · omega
  · split <;> omega
set_option maxHeartbeats 600000 in
set_option maxRecDepth 100000 in
theorem c_X5_firstStep {G : Gx} {h : Hp} {nx a : Nat} {n0 c0 x0 y0 : Int} {r0 S0 : Nat → Int} (hA : GA G h a n0 c0 x0 y0 r0 S0) (hL : Ls S0) {b it : Nat} {φ : Fs} (hF : FA G h b it φ) (hS : Sm it φ) (hd : a + 2 < b ∨ b + 3 < a) {w : Nat} (hw2 : w < 268435456) {p lf : Nat} {sm : Int} (hp : p < 8) (hlf : lf < 8) (hsm0 : -100 ≤ sm ∧ sm ≤ 100) : Con G yX5_firstStep cX5_firstStep 9 (some .int) 2 0 0 [.ref a, .ref b, vi (w : Int), vi (p : Int), vi sm, vi (lf : Int)] h nx (PI fun z h' => h' = h ∧ z = sr (stp φ w S0 p sm lf) φ.length) := by
  have hF0 := hF
  obtain ⟨ha, hw, hm⟩ := hA
  obtain ⟨K, F, Z, hb, hbk, hbf, hbs, hr⟩ := hF
  obtain ⟨h8, h28, hsm⟩ := id hS
  refine Con.of v_X5_firstStep.2.2.2.2.2.1 (Nat.le_of_ble_eq_true rfl) (lv := [(0, .ref a), (1, .ref b), (2, vi (w : Int)), (3, vi (p : Int)), (4, vi sm), (5, vi (lf : Int))]) rfl (fun X k => ?_)
  generalize hQQ : QM G X nx 0 0 _ = QQ
  refine g_iconst k dX5_firstStep_0 ?_
  refine g_istore k (lv2 := [(0, .ref a), (1, .ref b), (2, vi (w : Int)), (3, vi (p : Int)), (4, vi sm), (5, vi (lf : Int)), (6, vi 0)]) (by decide) rfl rfl dX5_firstStep_1 ?_
  have K3 : ∀ (nz : Nat) (v : Nat) (hv : v ≤ φ.length) (hno : ∀ j, j < v → ¬ stp φ w S0 p sm lf j) (hmz : φ.length - v < nz), Go G X 9 QQ 0 0 nx 3 [(0, .ref a), (1, .ref b), (2, vi (w : Int)), (3, vi (p : Int)), (4, vi sm), (5, vi (lf : Int)), (6, vi (v : Int))] [] h := by
    intro nz
    induction nz with
    | zero => intro v hv hno hmz; exact absurd hmz (Nat.not_lt_zero _)
    | succ nz ih3 =>
      intro v hv hno hmz
      refine g_iload k rfl dX5_firstStep_3 ?_
      refine g_aload_n k rfl dX5_firstStep_5 ?_
      refine g_get k 0 1 (C := RX0) (T := TX0) (N := 5) fl_X5_42 rfl wi_X0 (by decide) rfl hb rfl dX5_firstStep_6 ?_
      refine g_icmp_ge k (tgt := 90) (by omega) (by omega) dX5_firstStep_9 (by decide) (fun c9 => ?_) (fun c9 => ?_)
      · skip
        refine g_iconst k dX5_firstStep_90 ?_
        rw [← hQQ]
        refine g_ireti k rfl dX5_firstStep_91 ?_
        exact ⟨rfl, (sr_miss (fun j hj => hno j (by omega))).symm⟩
      · skip
        have hb2 := hsm v (by omega)
        have hw3 : w / 2 ^ v % 2 < 2 := Nat.mod_lt _ (by decide)
        have ht := tgt_b (p := (p : Int)) hS (show v < φ.length by omega)
        have hwt := wt_b (kd φ v)
        have K32 : ∀ (z : Int) (hz : (w / 2 ^ v % 2 = 0 ∧ z = tgt φ v p) ∨ (¬ w / 2 ^ v % 2 = 0 ∧ z = -1)), Go G X 9 QQ 0 0 nx 32 [(0, .ref a), (1, .ref b), (2, vi (w : Int)), (3, vi (p : Int)), (4, vi sm), (5, vi (lf : Int)), (6, vi (v : Int))] [vi z] h := by
          intro z hz
          refine g_istore k (lv2 := [(0, .ref a), (1, .ref b), (2, vi (w : Int)), (3, vi (p : Int)), (4, vi sm), (5, vi (lf : Int)), (6, vi (v : Int)), (7, vi z)]) (by decide) rfl rfl dX5_firstStep_32 ?_
          refine g_iload k rfl dX5_firstStep_34 ?_
          refine g_iconst k dX5_firstStep_36 ?_
          refine g_icmp_eq k (tgt := 84) (by omega) (by omega) dX5_firstStep_37 (by decide) (fun c37 => ?_) (fun c37 => ?_)
          · skip
            refine g_iinc k (lv2 := [(0, .ref a), (1, .ref b), (2, vi (w : Int)), (3, vi (p : Int)), (4, vi sm), (5, vi (lf : Int)), (6, vi ((v : Int) + 1)), (7, vi z)]) rfl (by decide) rfl rfl dX5_firstStep_84 ?_
            refine g_goto k (tgt := 3) dX5_firstStep_87 (by decide) ?_
            refine g_less (lv2 := [(0, .ref a), (1, .ref b), (2, vi (w : Int)), (3, vi (p : Int)), (4, vi sm), (5, vi (lf : Int)), (6, vi ((v : Int) + 1))]) ⟨rfl, rfl, rfl, rfl, rfl, rfl, rfl, trivial⟩ ?_
            exact ih3 (v + 1) (by omega) (lt_s2 hno (fun q => by have q1 := q.1; have q2 := q.2.1; have q3 := q.2.2.1; have q4 := q.2.2.2; omega)) (by omega)
          · skip
            obtain ⟨t, et⟩ : ∃ t : Nat, tgt φ v p = t := ⟨(tgt φ v p).toNat, by omega⟩
            have ett : (tgt φ v p).toNat = t := by omega
            have b1 := hL (lf * 8 + t) (by omega)
            refine g_aload_n k rfl dX5_firstStep_40 ?_
            refine g_get k 5 5 (C := RX5) (T := TX5) (N := 6) fl_X5_15 rfl wi_X5 (by decide) rfl ha rfl dX5_firstStep_41 ?_
            refine g_iload k rfl dX5_firstStep_44 ?_
            refine g_bipush k rfl dX5_firstStep_46 ?_
            refine g_imul k dX5_firstStep_48 ?_
            refine g_iload k rfl dX5_firstStep_49 ?_
            refine g_iadd k dX5_firstStep_51 ?_
            refine g_iald k (lf * 8 + t) hm (by omega) (by omega) (by decide) dX5_firstStep_52 ?_
            refine g_istore k (lv2 := [(0, .ref a), (1, .ref b), (2, vi (w : Int)), (3, vi (p : Int)), (4, vi sm), (5, vi (lf : Int)), (6, vi (v : Int)), (7, vi z), (8, vi (S0 (lf * 8 + t)))]) (by decide) rfl rfl dX5_firstStep_53 ?_
            refine g_iload k rfl dX5_firstStep_55 ?_
            refine g_ldc k (z := (-1000000000)) cn_X5_30 rfl dX5_firstStep_57 ?_
            refine g_icmp_eq k (tgt := 84) (by omega) (by omega) dX5_firstStep_59 (by decide) (fun c59 => ?_) (fun c59 => ?_)
            · skip
              refine g_iinc k (lv2 := [(0, .ref a), (1, .ref b), (2, vi (w : Int)), (3, vi (p : Int)), (4, vi sm), (5, vi (lf : Int)), (6, vi ((v : Int) + 1)), (7, vi z), (8, vi (S0 (lf * 8 + t)))]) rfl (by decide) rfl rfl dX5_firstStep_84 ?_
              refine g_goto k (tgt := 3) dX5_firstStep_87 (by decide) ?_
              refine g_less (lv2 := [(0, .ref a), (1, .ref b), (2, vi (w : Int)), (3, vi (p : Int)), (4, vi sm), (5, vi (lf : Int)), (6, vi ((v : Int) + 1))]) ⟨rfl, rfl, rfl, rfl, rfl, rfl, rfl, trivial⟩ ?_
              exact ih3 (v + 1) (by omega) (lt_s2 hno (fun q => by have q1 := q.1; have q2 := q.2.1; have q3 := q.2.2.1; have q4 := q.2.2.2; rw [ett] at q3 q4; omega)) (by omega)
            · skip
              refine g_iload k rfl dX5_firstStep_62 ?_
              refine g_aload_n k rfl dX5_firstStep_64 ?_
              refine g_get k 0 2 (C := RX0) (T := TX0) (N := 5) fl_X5_51 rfl wi_X0 (by decide) rfl hb rfl dX5_firstStep_65 ?_
              refine g_iload k rfl dX5_firstStep_68 ?_
              refine g_iald k v hbk (by omega) (by omega) (by decide) dX5_firstStep_70 ?_
              rw [show K v = (kd φ v : Int) from hr.t (by omega)]
              refine g_cSi k (As := [vi (kd φ v : Int)]) v_X5_weight ml_X5_54 (c_X5_weight (k1 := kd φ v) (by omega)) (by omega) (by omega) rfl (Nat.le_of_ble_eq_true rfl) rfl dX5_firstStep_71 (fun r71 h71 p71 => ?_)
              obtain ⟨eh71, p71⟩ := p71
              have eh71 := eh71.symm; subst eh71
              subst p71
              refine g_iadd k dX5_firstStep_74 ?_
              refine g_iload k rfl dX5_firstStep_75 ?_
              refine g_iadd k dX5_firstStep_77 ?_
              refine g_if_lt k (tgt := 84) (by omega) dX5_firstStep_78 (by decide) (fun c78 => ?_) (fun c78 => ?_)
              · skip
                refine g_iinc k (lv2 := [(0, .ref a), (1, .ref b), (2, vi (w : Int)), (3, vi (p : Int)), (4, vi sm), (5, vi (lf : Int)), (6, vi ((v : Int) + 1)), (7, vi z), (8, vi (S0 (lf * 8 + t)))]) rfl (by decide) rfl rfl dX5_firstStep_84 ?_
                refine g_goto k (tgt := 3) dX5_firstStep_87 (by decide) ?_
                refine g_less (lv2 := [(0, .ref a), (1, .ref b), (2, vi (w : Int)), (3, vi (p : Int)), (4, vi sm), (5, vi (lf : Int)), (6, vi ((v : Int) + 1))]) ⟨rfl, rfl, rfl, rfl, rfl, rfl, rfl, trivial⟩ ?_
                exact ih3 (v + 1) (by omega) (lt_s2 hno (fun q => by have q1 := q.1; have q2 := q.2.1; have q3 := q.2.2.1; have q4 := q.2.2.2; rw [ett] at q3 q4; omega)) (by omega)
              · skip
                refine g_iload k rfl dX5_firstStep_81 ?_
                rw [← hQQ]
                refine g_ireti k rfl dX5_firstStep_83 ?_
                exact ⟨rfl, (sr_hit (by omega) ⟨by omega, by omega, by rw [ett]; omega, by rw [ett]; omega⟩ hno).symm⟩
        refine g_iload_n k rfl dX5_firstStep_12 ?_
        refine g_iload k rfl dX5_firstStep_13 ?_
        refine g_ishr k (by omega) (by omega) dX5_firstStep_15 ?_
        refine g_iconst k dX5_firstStep_16 ?_
        refine g_iandm k 1 (by decide) (by decide) dX5_firstStep_17 ?_
        rw [show ((w : Int) / 2 ^ ((v : Int)).toNat) % 2 ^ 1 = ((w / 2 ^ v % 2 : Nat) : Int) from ibit]
        refine g_if_ne k (tgt := 31) (by omega) dX5_firstStep_18 (by decide) (fun c18 => ?_) (fun c18 => ?_)
        · skip
          refine g_iconst k dX5_firstStep_31 ?_
          exact K32 _ (by omega)
        · skip
          refine g_aload_n k rfl dX5_firstStep_21 ?_
          refine g_iload k rfl dX5_firstStep_22 ?_
          refine g_iload_n k rfl dX5_firstStep_24 ?_
          refine g_cVi k 0 (As := [vi (v : Int), vi (p : Int)]) v_X0_target rfl rfl hb ml_X5_74 (c_X0_target hF0 hS (k1 := v) (by omega) (by omega)) (by omega) (by omega) rfl (Nat.le_of_ble_eq_true rfl) rfl dX5_firstStep_25 (fun r25 h25 p25 => ?_)
          obtain ⟨eh25, p25⟩ := p25
          have eh25 := eh25.symm; subst eh25
          subst p25
          refine g_goto k (tgt := 32) dX5_firstStep_28 (by decide) ?_
          exact K32 _ (by omega)
  exact K3 _ 0 (Nat.zero_le _) (fun j hj => absurd hj (Nat.not_lt_zero j)) (Nat.lt_succ_self _)

/-- the ring laid: where it stands, its sum, how many BEFORE, behind i facts; which fact goes on -/
def tBf (k : Nat) : Int := if k = 0 then 1 else 0
noncomputable def trS (φ : Fs) (w : Nat) (S : Nat → Int) (k y n : Nat) : Nat → Nat × Int × Int
  | 0 => (y, wt k, tBf k)
  | i + 1 => ((tgt φ (sr (stp φ w S (trS φ w S k y n i).1 (trS φ w S k y n i).2.1 (n - 1 - i)) φ.length).toNat (trS φ w S k y n i).1).toNat, (trS φ w S k y n i).2.1 + wt (kd φ (sr (stp φ w S (trS φ w S k y n i).1 (trS φ w S k y n i).2.1 (n - 1 - i)) φ.length).toNat), (trS φ w S k y n i).2.2 + tBf (kd φ (sr (stp φ w S (trS φ w S k y n i).1 (trS φ w S k y n i).2.1 (n - 1 - i)) φ.length).toNat))
noncomputable def trK (φ : Fs) (w : Nat) (S : Nat → Int) (k y n i : Nat) : Int := sr (stp φ w S (trS φ w S k y n i).1 (trS φ w S k y n i).2.1 (n - 1 - i)) φ.length
theorem trS_s (φ : Fs) (w : Nat) (S : Nat → Int) (k y n i : Nat) : trS φ w S k y n (i + 1) = ((tgt φ (trK φ w S k y n i).toNat (trS φ w S k y n i).1).toNat, (trS φ w S k y n i).2.1 + wt (kd φ (trK φ w S k y n i).toNat), (trS φ w S k y n i).2.2 + tBf (kd φ (trK φ w S k y n i).toNat)) := rfl
theorem trS_b {φ : Fs} {w : Nat} {S : Nat → Int} {k y n it : Nat} (hS : Sm it φ) (hy : y < it) (hgo : ∀ i, i < n → ¬ trK φ w S k y n i = -1) : ∀ i, i ≤ n → (trS φ w S k y n i).1 < it ∧ -(((i + 1 : Nat) : Int)) ≤ (trS φ w S k y n i).2.1 ∧ (trS φ w S k y n i).2.1 ≤ ((i + 1 : Nat) : Int) ∧ 0 ≤ (trS φ w S k y n i).2.2 ∧ (trS φ w S k y n i).2.2 ≤ ((i + 1 : Nat) : Int)
  | 0, _ => by have := wt_b k; unfold trS tBf; refine ⟨hy, ?_, ?_, ?_, ?_⟩ <;> dsimp only <;> (try split) <;> omega
  | i + 1, hi => by
    have ih := trS_b hS hy hgo i (by omega)
    have h1 := hgo i (by omega)
    rw [trS_s]
    have hk := sr_is (P := stp φ w S (trS φ w S k y n i).1 (trS φ w S k y n i).2.1 (n - 1 - i)) (n := φ.length)
    rcases hk with ⟨e, -⟩ | ⟨m, e, hm, hp, -⟩
    · exact absurd e h1
    · have e2 : (trK φ w S k y n i).toNat = m := by unfold trK; rw [e]; rfl
      rw [e2]
      have hw := wt_b (kd φ m)
      have ht := tgt_b (p := ((trS φ w S k y n i).1 : Int)) hS hm
      have hq := hp.2.1
      dsimp only
      refine ⟨by omega, by omega, by omega, ?_, ?_⟩ <;> (unfold tBf; split <;> omega)
set_option maxHeartbeats 600000 in
set_option maxRecDepth 100000 in
theorem c_X5_trace {G : Gx} {h : Hp} {nx a : Nat} {n0 c0 x0 y0 : Int} {r0 S0 : Nat → Int} (hA : GA G h a n0 c0 x0 y0 r0 S0) (hL : Ls S0) {b it : Nat} {φ : Fs} (hF : FA G h b it φ) (hS : Sm it φ) (hd : a + 2 < b ∨ b + 3 < a) {w : Nat} (hw2 : w < 268435456) {k1 x y n : Nat} (hk : k1 ≤ 1) (hx : x < it) (hy : y < it) (hn : n < 8) (hgo : ∀ i, i < n → ¬ trK φ w S0 k1 y n i = -1) : Con G yX5_trace cX5_trace 11 none 3 0 0 [.ref a, .ref b, vi (w : Int), vi (k1 : Int), vi (x : Int), vi (y : Int), vi (n : Int)] h nx (PV fun h' => (∃ r1 : Nat → Int, GA G h' a ((n : Int) + 1) (trS φ w S0 k1 y n n).2.2 x y r1 S0 ∧ ∀ i, i < n → r1 i = trK φ w S0 k1 y n i) ∧ ∀ q : Nat, (q < a ∨ a + 2 < q) → h' q = h q) := by
  have hF0 := hF
  obtain ⟨ha, hw, hm⟩ := hA
  obtain ⟨K, F, Z, hb, hbk, hbf, hbs, hr⟩ := hF
  obtain ⟨h8, h28, hsm⟩ := id hS
  have htb := trS_b hS hy hgo
  refine Con.of v_X5_trace.2.2.2.2.2.1 (Nat.le_of_ble_eq_true rfl) (lv := [(0, .ref a), (1, .ref b), (2, vi (w : Int)), (3, vi (k1 : Int)), (4, vi (x : Int)), (5, vi (y : Int)), (6, vi (n : Int))]) rfl (fun X k => ?_)
  generalize hQQ : QM G X nx 0 0 _ = QQ
  have fr0 : ∀ q : Nat, (q < a ∨ a + 2 < q) → h q = h q := fun _ _ => rfl
  refine g_aload_n k rfl dX5_trace_0 ?_
  refine g_iload k rfl dX5_trace_1 ?_
  refine g_iconst k dX5_trace_3 ?_
  refine g_iadd k dX5_trace_4 ?_
  refine g_put k 5 0 (C := RX5) (T := TX5) (N := 6) fl_X5_26 rfl wi_X5 tyX5 tyX5_ok nmX5 (by decide) rfl rfl rfl rfl ha (Nat.le_of_ble_eq_true rfl) (fs2 := [vi ((n : Int) + 1), vi c0, vi x0, vi y0, .ref (a + 1), .ref (a + 2)]) rfl rfl dX5_trace_5 (fun h5 eh5 => ?_)
  have ha_ : h5 a = some (ob 5 [vi ((n : Int) + 1), vi c0, vi x0, vi y0, .ref (a + 1), .ref (a + 2)]) := (congrFun eh5 _).trans hup_s
  have hm_ : h5 (a + 2) = some (ai G 64 S0) := (congrFun eh5 _).trans ((hup_n (by omega)).trans hm)
  have hw_ : h5 (a + 1) = some (ai G 8 r0) := (congrFun eh5 _).trans ((hup_n (by omega)).trans hw)
  have hb_ : h5 b = some (ob 0 [vi (it : Int), vi (φ.length : Int), .ref (b + 1), .ref (b + 2), .ref (b + 3)]) := (congrFun eh5 _).trans ((hup_n (by omega)).trans hb)
  have hbk_ : h5 (b + 1) = some (ai G 28 K) := (congrFun eh5 _).trans ((hup_n (by omega)).trans hbk)
  have hbf_ : h5 (b + 2) = some (ai G 28 F) := (congrFun eh5 _).trans ((hup_n (by omega)).trans hbf)
  have hbs_ : h5 (b + 3) = some (ai G 28 Z) := (congrFun eh5 _).trans ((hup_n (by omega)).trans hbs)
  have fr_ : ∀ q : Nat, (q < a ∨ a + 2 < q) → h5 q = h q := fun q hq => (congrFun eh5 q).trans ((hup_n (by omega)).trans (fr0 q hq))
  refine g_aload_n k rfl dX5_trace_8 ?_
  have K18 : ∀ (x8 : Int) (hx8 : x8 = tBf k1), Go G X 11 QQ 0 0 nx 18 [(0, .ref a), (1, .ref b), (2, vi (w : Int)), (3, vi (k1 : Int)), (4, vi (x : Int)), (5, vi (y : Int)), (6, vi (n : Int))] [vi x8, .ref a] h5 := by
    intro x8 hx8
    refine g_put k 5 1 (C := RX5) (T := TX5) (N := 6) fl_X5_62 rfl wi_X5 tyX5 tyX5_ok nmX5 (by decide) rfl rfl rfl rfl ha_ (Nat.le_of_ble_eq_true rfl) (fs2 := [vi ((n : Int) + 1), vi x8, vi x0, vi y0, .ref (a + 1), .ref (a + 2)]) rfl rfl dX5_trace_18 (fun h18 eh18 => ?_)
    have ha__1 : h18 a = some (ob 5 [vi ((n : Int) + 1), vi x8, vi x0, vi y0, .ref (a + 1), .ref (a + 2)]) := (congrFun eh18 _).trans hup_s
    have hm__1 : h18 (a + 2) = some (ai G 64 S0) := (congrFun eh18 _).trans ((hup_n (by omega)).trans hm_)
    have hw__1 : h18 (a + 1) = some (ai G 8 r0) := (congrFun eh18 _).trans ((hup_n (by omega)).trans hw_)
    have hb__1 : h18 b = some (ob 0 [vi (it : Int), vi (φ.length : Int), .ref (b + 1), .ref (b + 2), .ref (b + 3)]) := (congrFun eh18 _).trans ((hup_n (by omega)).trans hb_)
    have hbk__1 : h18 (b + 1) = some (ai G 28 K) := (congrFun eh18 _).trans ((hup_n (by omega)).trans hbk_)
    have hbf__1 : h18 (b + 2) = some (ai G 28 F) := (congrFun eh18 _).trans ((hup_n (by omega)).trans hbf_)
    have hbs__1 : h18 (b + 3) = some (ai G 28 Z) := (congrFun eh18 _).trans ((hup_n (by omega)).trans hbs_)
    have fr__1 : ∀ q : Nat, (q < a ∨ a + 2 < q) → h18 q = h q := fun q hq => (congrFun eh18 q).trans ((hup_n (by omega)).trans (fr_ q hq))
    refine g_aload_n k rfl dX5_trace_21 ?_
    refine g_iload k rfl dX5_trace_22 ?_
    refine g_put k 5 2 (C := RX5) (T := TX5) (N := 6) fl_X5_65 rfl wi_X5 tyX5 tyX5_ok nmX5 (by decide) rfl rfl rfl rfl ha__1 (Nat.le_of_ble_eq_true rfl) (fs2 := [vi ((n : Int) + 1), vi x8, vi (x : Int), vi y0, .ref (a + 1), .ref (a + 2)]) rfl rfl dX5_trace_24 (fun h24 eh24 => ?_)
    have ha__2 : h24 a = some (ob 5 [vi ((n : Int) + 1), vi x8, vi (x : Int), vi y0, .ref (a + 1), .ref (a + 2)]) := (congrFun eh24 _).trans hup_s
    have hm__2 : h24 (a + 2) = some (ai G 64 S0) := (congrFun eh24 _).trans ((hup_n (by omega)).trans hm__1)
    have hw__2 : h24 (a + 1) = some (ai G 8 r0) := (congrFun eh24 _).trans ((hup_n (by omega)).trans hw__1)
    have hb__2 : h24 b = some (ob 0 [vi (it : Int), vi (φ.length : Int), .ref (b + 1), .ref (b + 2), .ref (b + 3)]) := (congrFun eh24 _).trans ((hup_n (by omega)).trans hb__1)
    have hbk__2 : h24 (b + 1) = some (ai G 28 K) := (congrFun eh24 _).trans ((hup_n (by omega)).trans hbk__1)
    have hbf__2 : h24 (b + 2) = some (ai G 28 F) := (congrFun eh24 _).trans ((hup_n (by omega)).trans hbf__1)
    have hbs__2 : h24 (b + 3) = some (ai G 28 Z) := (congrFun eh24 _).trans ((hup_n (by omega)).trans hbs__1)
    have fr__2 : ∀ q : Nat, (q < a ∨ a + 2 < q) → h24 q = h q := fun q hq => (congrFun eh24 q).trans ((hup_n (by omega)).trans (fr__1 q hq))
    refine g_aload_n k rfl dX5_trace_27 ?_
    refine g_iload k rfl dX5_trace_28 ?_
    refine g_put k 5 3 (C := RX5) (T := TX5) (N := 6) fl_X5_68 rfl wi_X5 tyX5 tyX5_ok nmX5 (by decide) rfl rfl rfl rfl ha__2 (Nat.le_of_ble_eq_true rfl) (fs2 := [vi ((n : Int) + 1), vi x8, vi (x : Int), vi (y : Int), .ref (a + 1), .ref (a + 2)]) rfl rfl dX5_trace_30 (fun h30 eh30 => ?_)
    have ha__3 : h30 a = some (ob 5 [vi ((n : Int) + 1), vi x8, vi (x : Int), vi (y : Int), .ref (a + 1), .ref (a + 2)]) := (congrFun eh30 _).trans hup_s
    have hm__3 : h30 (a + 2) = some (ai G 64 S0) := (congrFun eh30 _).trans ((hup_n (by omega)).trans hm__2)
    have hw__3 : h30 (a + 1) = some (ai G 8 r0) := (congrFun eh30 _).trans ((hup_n (by omega)).trans hw__2)
    have hb__3 : h30 b = some (ob 0 [vi (it : Int), vi (φ.length : Int), .ref (b + 1), .ref (b + 2), .ref (b + 3)]) := (congrFun eh30 _).trans ((hup_n (by omega)).trans hb__2)
    have hbk__3 : h30 (b + 1) = some (ai G 28 K) := (congrFun eh30 _).trans ((hup_n (by omega)).trans hbk__2)
    have hbf__3 : h30 (b + 2) = some (ai G 28 F) := (congrFun eh30 _).trans ((hup_n (by omega)).trans hbf__2)
    have hbs__3 : h30 (b + 3) = some (ai G 28 Z) := (congrFun eh30 _).trans ((hup_n (by omega)).trans hbs__2)
    have fr__3 : ∀ q : Nat, (q < a ∨ a + 2 < q) → h30 q = h q := fun q hq => (congrFun eh30 q).trans ((hup_n (by omega)).trans (fr__2 q hq))
    refine g_iload k rfl dX5_trace_33 ?_
    refine g_istore k (lv2 := [(0, .ref a), (1, .ref b), (2, vi (w : Int)), (3, vi (k1 : Int)), (4, vi (x : Int)), (5, vi (y : Int)), (6, vi (n : Int)), (7, vi (y : Int))]) (by decide) rfl rfl dX5_trace_35 ?_
    refine g_iload_n k rfl dX5_trace_37 ?_
    refine g_cSi k (As := [vi (k1 : Int)]) v_X5_weight ml_X5_54 (c_X5_weight hk) (by omega) (by omega) rfl (Nat.le_of_ble_eq_true rfl) rfl dX5_trace_38 (fun r38 h38 p38 => ?_)
    obtain ⟨eh38, p38⟩ := p38
    have eh38 := eh38.symm; subst eh38
    subst p38
    refine g_istore k (lv2 := [(0, .ref a), (1, .ref b), (2, vi (w : Int)), (3, vi (k1 : Int)), (4, vi (x : Int)), (5, vi (y : Int)), (6, vi (n : Int)), (7, vi (y : Int)), (8, vi (wt k1))]) (by decide) rfl rfl dX5_trace_41 ?_
    refine g_iconst k dX5_trace_43 ?_
    refine g_istore k (lv2 := [(0, .ref a), (1, .ref b), (2, vi (w : Int)), (3, vi (k1 : Int)), (4, vi (x : Int)), (5, vi (y : Int)), (6, vi (n : Int)), (7, vi (y : Int)), (8, vi (wt k1)), (9, vi 0)]) (by decide) rfl rfl dX5_trace_44 ?_
    have K46 : ∀ (nz_1 : Nat) (i : Nat) (r1 : Nat → Int) (h46 : Hp) (ha__4 : h46 a = some (ob 5 [vi ((n : Int) + 1), vi ((trS φ w S0 k1 y n i).2.2), vi (x : Int), vi (y : Int), .ref (a + 1), .ref (a + 2)])) (hm__4 : h46 (a + 2) = some (ai G 64 S0)) (hw__4 : h46 (a + 1) = some (ai G 8 r1)) (hb__4 : h46 b = some (ob 0 [vi (it : Int), vi (φ.length : Int), .ref (b + 1), .ref (b + 2), .ref (b + 3)])) (hbk__4 : h46 (b + 1) = some (ai G 28 K)) (hbf__4 : h46 (b + 2) = some (ai G 28 F)) (hbs__4 : h46 (b + 3) = some (ai G 28 Z)) (fr__4 : ∀ q : Nat, (q < a ∨ a + 2 < q) → h46 q = h q) (hi : i ≤ n) (hr1 : ∀ j, j < i → r1 j = trK φ w S0 k1 y n j) (hmz_1 : n - i < nz_1), Go G X 11 QQ 0 0 nx 46 [(0, .ref a), (1, .ref b), (2, vi (w : Int)), (3, vi (k1 : Int)), (4, vi (x : Int)), (5, vi (y : Int)), (6, vi (n : Int)), (7, vi ((trS φ w S0 k1 y n i).1 : Int)), (8, vi ((trS φ w S0 k1 y n i).2.1)), (9, vi (i : Int))] [] h46 := by
      intro nz_1
      induction nz_1 with
      | zero => intro i r1 h46 ha__4 hm__4 hw__4 hb__4 hbk__4 hbf__4 hbs__4 fr__4 hi hr1 hmz_1; exact absurd hmz_1 (Nat.not_lt_zero _)
      | succ nz_1 ih46 =>
        intro i r1 h46 ha__4 hm__4 hw__4 hb__4 hbk__4 hbf__4 hbs__4 fr__4 hi hr1 hmz_1
        refine g_iload k rfl dX5_trace_46 ?_
        refine g_iload k rfl dX5_trace_48 ?_
        refine g_icmp_ge k (tgt := 143) (by omega) (by omega) dX5_trace_50 (by decide) (fun c50 => ?_) (fun c50 => ?_)
        · skip
          rw [← hQQ]
          refine g_retv k rfl dX5_trace_143 ?_
          have e : i = n := by omega
          subst e
          exact ⟨⟨r1, ⟨ha__4, hw__4, hm__4⟩, hr1⟩, fr__4⟩
        · skip
          have hb1 := htb i (by omega)
          have hgi := hgo i (by omega)
          obtain ⟨m, em, hm, hpm⟩ : ∃ m : Nat, trK φ w S0 k1 y n i = m ∧ m < φ.length ∧ stp φ w S0 (trS φ w S0 k1 y n i).1 (trS φ w S0 k1 y n i).2.1 (n - 1 - i) m := by
            rcases sr_is (P := stp φ w S0 (trS φ w S0 k1 y n i).1 (trS φ w S0 k1 y n i).2.1 (n - 1 - i)) (n := φ.length) with ⟨e, -⟩ | ⟨m, e, h1, h2, -⟩
            · exact absurd e hgi
            · exact ⟨m, e, h1, h2⟩
          have hb2 := hsm m hm
          have ht := tgt_b (p := ((trS φ w S0 k1 y n i).1 : Int)) hS hm
          have hpm1 := hpm.2.1
          have hwt := wt_b (kd φ m)
          refine g_aload_n k rfl dX5_trace_53 ?_
          refine g_aload_n k rfl dX5_trace_54 ?_
          refine g_iload_n k rfl dX5_trace_55 ?_
          refine g_iload k rfl dX5_trace_56 ?_
          refine g_iload k rfl dX5_trace_58 ?_
          refine g_iload k rfl dX5_trace_60 ?_
          refine g_iconst k dX5_trace_62 ?_
          refine g_isub k dX5_trace_63 ?_
          refine g_iload k rfl dX5_trace_64 ?_
          refine g_isub k dX5_trace_66 ?_
          rw [show ((n : Int) - 1) - (i : Int) = ((n - 1 - i : Nat) : Int) from (by omega)]
          refine g_cVi k 5 (As := [.ref b, vi (w : Int), vi ((trS φ w S0 k1 y n i).1 : Int), vi ((trS φ w S0 k1 y n i).2.1), vi ((n - 1 - i : Nat) : Int)]) v_X5_firstStep rfl rfl ha__4 ml_X5_71 (c_X5_firstStep (p := (trS φ w S0 k1 y n i).1) (sm := (trS φ w S0 k1 y n i).2.1) (lf := n - 1 - i) ⟨ha__4, hw__4, hm__4⟩ hL (hF0.keep (fun q g1 g2 => fr__4 q (by omega))) hS hd hw2 (by omega) (by omega) (by omega)) (by omega) (by omega) rfl (Nat.le_of_ble_eq_true rfl) rfl dX5_trace_67 (fun r67 h67 p67 => ?_)
          obtain ⟨eh67, p67⟩ := p67
          have eh67 := eh67.symm; subst eh67
          rw [show sr (stp φ w S0 (trS φ w S0 k1 y n i).1 (trS φ w S0 k1 y n i).2.1 (n - 1 - i)) φ.length = m from em] at p67
          subst p67
          refine g_istore k (lv2 := [(0, .ref a), (1, .ref b), (2, vi (w : Int)), (3, vi (k1 : Int)), (4, vi (x : Int)), (5, vi (y : Int)), (6, vi (n : Int)), (7, vi ((trS φ w S0 k1 y n i).1 : Int)), (8, vi ((trS φ w S0 k1 y n i).2.1)), (9, vi (i : Int)), (10, vi (m : Int))]) (by decide) rfl rfl dX5_trace_70 ?_
          refine g_iload k rfl dX5_trace_72 ?_
          refine g_iconst k dX5_trace_74 ?_
          refine g_icmp_ne k (tgt := 79) (by omega) (by omega) dX5_trace_75 (by decide) (fun c75 => ?_) (fun c75 => ?_)
          · skip
            refine g_aload_n k rfl dX5_trace_79 ?_
            refine g_get k 5 4 (C := RX5) (T := TX5) (N := 6) fl_X5_9 rfl wi_X5 (by decide) rfl ha__4 rfl dX5_trace_80 ?_
            refine g_iload k rfl dX5_trace_83 ?_
            refine g_iload k rfl dX5_trace_85 ?_
            refine g_iast k i hw__4 (by omega) (by omega) (by decide) dX5_trace_87 (fun h87 eh87 => ?_)
            have ha__5 : h87 a = some (ob 5 [vi ((n : Int) + 1), vi ((trS φ w S0 k1 y n i).2.2), vi (x : Int), vi (y : Int), .ref (a + 1), .ref (a + 2)]) := (congrFun eh87 _).trans ((hup_n (by omega)).trans ha__4)
            have hm__5 : h87 (a + 2) = some (ai G 64 S0) := (congrFun eh87 _).trans ((hup_n (by omega)).trans hm__4)
            have hw__5 : h87 (a + 1) = some (ai G 8 (fu r1 i (m : Int))) := (congrFun eh87 _).trans hup_s
            have hb__5 : h87 b = some (ob 0 [vi (it : Int), vi (φ.length : Int), .ref (b + 1), .ref (b + 2), .ref (b + 3)]) := (congrFun eh87 _).trans ((hup_n (by omega)).trans hb__4)
            have hbk__5 : h87 (b + 1) = some (ai G 28 K) := (congrFun eh87 _).trans ((hup_n (by omega)).trans hbk__4)
            have hbf__5 : h87 (b + 2) = some (ai G 28 F) := (congrFun eh87 _).trans ((hup_n (by omega)).trans hbf__4)
            have hbs__5 : h87 (b + 3) = some (ai G 28 Z) := (congrFun eh87 _).trans ((hup_n (by omega)).trans hbs__4)
            have fr__5 : ∀ q : Nat, (q < a ∨ a + 2 < q) → h87 q = h q := fun q hq => (congrFun eh87 q).trans ((hup_n (by omega)).trans (fr__4 q hq))
            refine g_iload k rfl dX5_trace_88 ?_
            refine g_aload_n k rfl dX5_trace_90 ?_
            refine g_get k 0 2 (C := RX0) (T := TX0) (N := 5) fl_X5_51 rfl wi_X0 (by decide) rfl hb__5 rfl dX5_trace_91 ?_
            refine g_iload k rfl dX5_trace_94 ?_
            refine g_iald k m hbk__5 (by omega) (by omega) (by decide) dX5_trace_96 ?_
            rw [show K m = (kd φ m : Int) from hr.t (by omega)]
            refine g_cSi k (As := [vi (kd φ m : Int)]) v_X5_weight ml_X5_54 (c_X5_weight (k1 := kd φ m) (by omega)) (by omega) (by omega) rfl (Nat.le_of_ble_eq_true rfl) rfl dX5_trace_97 (fun r97 h97 p97 => ?_)
            obtain ⟨eh97, p97⟩ := p97
            have eh97 := eh97.symm; subst eh97
            subst p97
            refine g_iadd k dX5_trace_100 ?_
            refine g_istore k (lv2 := [(0, .ref a), (1, .ref b), (2, vi (w : Int)), (3, vi (k1 : Int)), (4, vi (x : Int)), (5, vi (y : Int)), (6, vi (n : Int)), (7, vi ((trS φ w S0 k1 y n i).1 : Int)), (8, vi (((trS φ w S0 k1 y n i).2.1) + (wt (kd φ m)))), (9, vi (i : Int)), (10, vi (m : Int))]) (by decide) rfl rfl dX5_trace_101 ?_
            refine g_aload_n k rfl dX5_trace_103 ?_
            refine g_dup k rfl dX5_trace_104 ?_
            refine g_get k 5 1 (C := RX5) (T := TX5) (N := 6) fl_X5_62 rfl wi_X5 (by decide) rfl ha__5 rfl dX5_trace_105 ?_
            have K123 : ∀ (x9 : Int) (hx9 : x9 = tBf (kd φ m)), Go G X 11 QQ 0 0 nx 123 [(0, .ref a), (1, .ref b), (2, vi (w : Int)), (3, vi (k1 : Int)), (4, vi (x : Int)), (5, vi (y : Int)), (6, vi (n : Int)), (7, vi ((trS φ w S0 k1 y n i).1 : Int)), (8, vi (((trS φ w S0 k1 y n i).2.1) + (wt (kd φ m)))), (9, vi (i : Int)), (10, vi (m : Int))] [vi x9, vi ((trS φ w S0 k1 y n i).2.2), .ref a] h87 := by
              intro x9 hx9
              refine g_iadd k dX5_trace_123 ?_
              refine g_put k 5 1 (C := RX5) (T := TX5) (N := 6) fl_X5_62 rfl wi_X5 tyX5 tyX5_ok nmX5 (by decide) rfl rfl rfl rfl ha__5 (Nat.le_of_ble_eq_true rfl) (fs2 := [vi ((n : Int) + 1), vi (((trS φ w S0 k1 y n i).2.2) + x9), vi (x : Int), vi (y : Int), .ref (a + 1), .ref (a + 2)]) rfl rfl dX5_trace_124 (fun h124 eh124 => ?_)
              have ha__6 : h124 a = some (ob 5 [vi ((n : Int) + 1), vi (((trS φ w S0 k1 y n i).2.2) + x9), vi (x : Int), vi (y : Int), .ref (a + 1), .ref (a + 2)]) := (congrFun eh124 _).trans hup_s
              have hm__6 : h124 (a + 2) = some (ai G 64 S0) := (congrFun eh124 _).trans ((hup_n (by omega)).trans hm__5)
              have hw__6 : h124 (a + 1) = some (ai G 8 (fu r1 i (m : Int))) := (congrFun eh124 _).trans ((hup_n (by omega)).trans hw__5)
              have hb__6 : h124 b = some (ob 0 [vi (it : Int), vi (φ.length : Int), .ref (b + 1), .ref (b + 2), .ref (b + 3)]) := (congrFun eh124 _).trans ((hup_n (by omega)).trans hb__5)
              have hbk__6 : h124 (b + 1) = some (ai G 28 K) := (congrFun eh124 _).trans ((hup_n (by omega)).trans hbk__5)
              have hbf__6 : h124 (b + 2) = some (ai G 28 F) := (congrFun eh124 _).trans ((hup_n (by omega)).trans hbf__5)
              have hbs__6 : h124 (b + 3) = some (ai G 28 Z) := (congrFun eh124 _).trans ((hup_n (by omega)).trans hbs__5)
              have fr__6 : ∀ q : Nat, (q < a ∨ a + 2 < q) → h124 q = h q := fun q hq => (congrFun eh124 q).trans ((hup_n (by omega)).trans (fr__5 q hq))
              refine g_aload_n k rfl dX5_trace_127 ?_
              refine g_iload k rfl dX5_trace_128 ?_
              refine g_iload k rfl dX5_trace_130 ?_
              refine g_cVi k 0 (As := [vi (m : Int), vi ((trS φ w S0 k1 y n i).1 : Int)]) v_X0_target rfl rfl hb__6 ml_X5_74 (c_X0_target (hF0.keep (fun q g1 g2 => fr__6 q (by omega))) hS (k1 := m) (by omega) hm) (by omega) (by omega) rfl (Nat.le_of_ble_eq_true rfl) rfl dX5_trace_132 (fun r132 h132 p132 => ?_)
              obtain ⟨eh132, p132⟩ := p132
              have eh132 := eh132.symm; subst eh132
              subst p132
              refine g_istore k (lv2 := [(0, .ref a), (1, .ref b), (2, vi (w : Int)), (3, vi (k1 : Int)), (4, vi (x : Int)), (5, vi (y : Int)), (6, vi (n : Int)), (7, vi (tgt φ m ((trS φ w S0 k1 y n i).1 : Int))), (8, vi (((trS φ w S0 k1 y n i).2.1) + (wt (kd φ m)))), (9, vi (i : Int)), (10, vi (m : Int))]) (by decide) rfl rfl dX5_trace_135 ?_
              refine g_iinc k (lv2 := [(0, .ref a), (1, .ref b), (2, vi (w : Int)), (3, vi (k1 : Int)), (4, vi (x : Int)), (5, vi (y : Int)), (6, vi (n : Int)), (7, vi (tgt φ m ((trS φ w S0 k1 y n i).1 : Int))), (8, vi (((trS φ w S0 k1 y n i).2.1) + (wt (kd φ m)))), (9, vi ((i : Int) + 1)), (10, vi (m : Int))]) rfl (by decide) rfl rfl dX5_trace_137 ?_
              refine g_goto k (tgt := 46) dX5_trace_140 (by decide) ?_
              refine g_less (lv2 := [(0, .ref a), (1, .ref b), (2, vi (w : Int)), (3, vi (k1 : Int)), (4, vi (x : Int)), (5, vi (y : Int)), (6, vi (n : Int)), (7, vi (tgt φ m ((trS φ w S0 k1 y n i).1 : Int))), (8, vi (((trS φ w S0 k1 y n i).2.1) + (wt (kd φ m)))), (9, vi ((i : Int) + 1))]) ⟨rfl, rfl, rfl, rfl, rfl, rfl, rfl, rfl, rfl, rfl, trivial⟩ ?_
              have ets := trS_s φ w S0 k1 y n i
              rw [em, Int.toNat_natCast] at ets
              rw [show tgt φ m ((trS φ w S0 k1 y n i).1 : Int) = (((trS φ w S0 k1 y n (i + 1)).1 : Nat) : Int) by rw [ets]; show _ = (((tgt φ m ((trS φ w S0 k1 y n i).1 : Int)).toNat : Nat) : Int); omega, show (trS φ w S0 k1 y n i).2.1 + wt (kd φ m) = (trS φ w S0 k1 y n (i + 1)).2.1 by rw [ets]]
              rw [show (trS φ w S0 k1 y n i).2.2 + x9 = (trS φ w S0 k1 y n (i + 1)).2.2 by rw [ets, hx9]] at ha__6
              exact ih46 (i + 1) (fu r1 i (m : Int)) h124 ha__6 hm__6 hw__6 hb__6 hbk__6 hbf__6 hbs__6 fr__6 (by omega) (lt_s2 (fun j hj => (fu_n (by omega)).trans (hr1 j hj)) (fu_s.trans em.symm)) (by omega)
            refine g_aload_n k rfl dX5_trace_108 ?_
            refine g_get k 0 2 (C := RX0) (T := TX0) (N := 5) fl_X5_51 rfl wi_X0 (by decide) rfl hb__5 rfl dX5_trace_109 ?_
            refine g_iload k rfl dX5_trace_112 ?_
            refine g_iald k m hbk__5 (by omega) (by omega) (by decide) dX5_trace_114 ?_
            rw [show K m = (kd φ m : Int) from hr.t (by omega)]
            refine g_if_ne k (tgt := 122) (by omega) dX5_trace_115 (by decide) (fun c115 => ?_) (fun c115 => ?_)
            · skip
              refine g_iconst k dX5_trace_122 ?_
              exact K123 _ (by unfold tBf; split <;> omega)
            · skip
              refine g_iconst k dX5_trace_118 ?_
              refine g_goto k (tgt := 123) dX5_trace_119 (by decide) ?_
              exact K123 _ (by unfold tBf; split <;> omega)
          · skip
            omega
    rw [hx8] at ha__3
    exact K46 _ 0 r0 h30 ha__3 hm__3 hw__3 hb__3 hbk__3 hbf__3 hbs__3 fr__3 (Nat.zero_le _) (fun j hj => absurd hj (Nat.not_lt_zero j)) (Nat.lt_succ_self _)
  refine g_iload_n k rfl dX5_trace_9 ?_
  refine g_if_ne k (tgt := 17) (by omega) dX5_trace_10 (by decide) (fun c10 => ?_) (fun c10 => ?_)
  · skip
    refine g_iconst k dX5_trace_17 ?_
    exact K18 _ (by unfold tBf; split <;> omega)
  · skip
    refine g_iconst k dX5_trace_13 ?_
    refine g_goto k (tgt := 18) dX5_trace_14 (by decide) ?_
    exact K18 _ (by unfold tBf; split <;> omega)

