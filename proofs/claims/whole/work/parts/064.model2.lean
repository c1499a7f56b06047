/-! the reference: sums, GOOD, LEAST -/
theorem wM_b {k : Nat} {L : Int} (h : 0 ≤ L ∧ L ≤ 60) : -60 ≤ wM k L ∧ wM k L ≤ 60 := by unfold wM; split <;> split <;> omega
theorem wM_00 : wM 0 0 = 10 := rfl
theorem wM_10 : wM 1 0 = -8 := rfl
theorem wM_0 {L : Int} (h : 1 ≤ L) : wM 0 L = L := by unfold wM; rw [if_pos rfl, if_neg (by omega)]
theorem wM_1 {L : Int} (h : 1 ≤ L) : wM 1 L = 1 - L := by unfold wM; rw [if_neg (by decide), if_neg (by omega)]
theorem M0.fs {φ : Fs} {p q : Int} {S : Nat → Int} {it : Nat} (h8 : it ≤ 8) (h : M0 φ p q φ.length S) : FS (A0 (EF φ 0) p q) it 0 S := ⟨fun j hj => by have := h.1 j hj; omega, Or.inl (fun a b ha hb => h.2 a b (by omega) (by omega))⟩
theorem Fe_st {φ : Fs} {it : Nat} {L : Int} (hS : Sm it φ) (hL : 1 ≤ L ∧ L ≤ 60) : Fe φ 0 (wM 0 L) (wM 1 L) ↔ reS (str φ L it) it := by rw [wM_0 hL.1, wM_1 hL.1]; exact (str_fw hS hL).1.symm
theorem Fe_gd {φ : Fs} {it : Nat} (hS : Sm it φ) : Fe φ 0 (wM 0 0) (wM 1 0) ↔ Good φ := (Gd_iff (EF_in hS)).symm
set_option maxHeartbeats 600000 in
set_option maxRecDepth 100000 in
theorem c_X10_laysSteps {G : Gx} {h : Hp} {nx : Nat} {m : Nat} {s : Nat → Int} (hm : h m = some (mo m s)) {r : Nat} {N : Nat → Int} {it : Nat} {φ : Fs} (hn : h r = some (ai G 86 N)) (hR : Rw N it φ) (hS : Sm it φ) (hrm : r ≠ m + 11) {S : Nat → Int} (hu : h (m + 11) = some (ai G 64 S)) {L : Int} (hL : 0 ≤ L ∧ L ≤ 60) : Con G yX10_laysSteps cX10_laysSteps 6 none 2 0 0 [.ref m, .ref r, vi L] h nx (PV fun h' => (∃ S2 : Nat → Int, h' (m + 11) = some (ai G 64 S2) ∧ FwP φ it (wM 0 L) (wM 1 L) S2) ∧ ∀ q : Nat, q ≠ m + 11 → h' q = h q) := by
  obtain ⟨h8, h28, hsm⟩ := id hS
  have hw0 := wM_b (k := 0) hL
  have hw1 := wM_b (k := 1) hL
  have hOB : Obd 60 (A0 (EF φ 0) (wM 0 L) (wM 1 L)) := A0_OB hw0 hw1
  refine Con.of v_X10_laysSteps.2.2.2.2.2.1 (Nat.le_of_ble_eq_true rfl) (lv := [(0, .ref m), (1, .ref r), (2, vi L)]) rfl (fun X k => ?_)
  generalize hQQ : QM G X nx 0 0 _ = QQ
  have fr0 : ∀ q : Nat, q ≠ m + 11 → h q = h q := fun _ _ => rfl
  refine g_iconst k dX10_laysSteps_0 ?_
  refine g_istore_n k (lv2 := [(0, .ref m), (1, .ref r), (2, vi L), (3, vi 0)]) (by decide) rfl rfl dX10_laysSteps_1 ?_
  have K2 : ∀ (nz : Nat) (a : Nat) (S2 : Nat → Int) (h2 : Hp) (hm_ : h2 m = some (mo m s)) (hn_ : h2 r = some (ai G 86 N)) (hu_ : h2 (m + 11) = some (ai G 64 S2)) (fr_ : ∀ q : Nat, q ≠ m + 11 → h2 q = h q) (ha : a ≤ 8) (hi : ∀ u v, u < a → v < 8 → S2 (u * 8 + v) = if u = v then 0 else -100000) (hmz : 8 - a < nz), Go G X 6 QQ 0 0 nx 2 [(0, .ref m), (1, .ref r), (2, vi L), (3, vi (a : Int))] [] h2 := by
    intro nz
    induction nz with
    | zero => intro a S2 h2 hm_ hn_ hu_ fr_ ha hi hmz; exact absurd hmz (Nat.not_lt_zero _)
    | succ nz ih2 =>
      intro a S2 h2 hm_ hn_ hu_ fr_ ha hi hmz
      refine g_iload_n k rfl dX10_laysSteps_2 ?_
      refine g_bipush k rfl dX10_laysSteps_3 ?_
      refine g_icmp_ge k (tgt := 54) (by omega) (by omega) dX10_laysSteps_5 (by decide) (fun c5 => ?_) (fun c5 => ?_)
      · skip
        refine g_iconst k dX10_laysSteps_54 ?_
        refine g_istore_n k (lv2 := [(0, .ref m), (1, .ref r), (2, vi L), (3, vi 0)]) (by decide) rfl rfl dX10_laysSteps_55 ?_
        have K56 : ∀ (nz_1 : Nat) (c : Nat) (S4 : Nat → Int) (h56 : Hp) (hm__1 : h56 m = some (mo m s)) (hn__1 : h56 r = some (ai G 86 N)) (hu__1 : h56 (m + 11) = some (ai G 64 S4)) (fr__1 : ∀ q : Nat, q ≠ m + 11 → h56 q = h q) (hc : c ≤ φ.length) (h0 : M0 φ (wM 0 L) (wM 1 L) c S4) (hmz_1 : φ.length - c < nz_1), Go G X 6 QQ 0 0 nx 56 [(0, .ref m), (1, .ref r), (2, vi L), (3, vi (c : Int))] [] h56 := by
          intro nz_1
          induction nz_1 with
          | zero => intro c S4 h56 hm__1 hn__1 hu__1 fr__1 hc h0 hmz_1; exact absurd hmz_1 (Nat.not_lt_zero _)
          | succ nz_1 ih56 =>
            intro c S4 h56 hm__1 hn__1 hu__1 fr__1 hc h0 hmz_1
            refine g_iload_n k rfl dX10_laysSteps_56 ?_
            refine g_aload_n k rfl dX10_laysSteps_57 ?_
            refine g_iconst k dX10_laysSteps_58 ?_
            refine g_iald k 1 hn__1 (by omega) (by omega) (by decide) dX10_laysSteps_59 ?_
            rw [show N 1 = (φ.length : Int) from hR.n]
            refine g_icmp_ge k (tgt := 125) (by omega) (by omega) dX10_laysSteps_60 (by decide) (fun c60 => ?_) (fun c60 => ?_)
            · skip
              refine g_iconst k dX10_laysSteps_125 ?_
              refine g_istore_n k (lv2 := [(0, .ref m), (1, .ref r), (2, vi L), (3, vi 0)]) (by decide) rfl rfl dX10_laysSteps_126 ?_
              have K127 : ∀ (nz_2 : Nat) (c3 : Nat) (S5 : Nat → Int) (h127 : Hp) (hm__2 : h127 m = some (mo m s)) (hn__2 : h127 r = some (ai G 86 N)) (hu__2 : h127 (m + 11) = some (ai G 64 S5)) (fr__2 : ∀ q : Nat, q ≠ m + 11 → h127 q = h q) (hc3 : c3 ≤ it) (hF : FS (A0 (EF φ 0) (wM 0 L) (wM 1 L)) it c3 S5) (hmz_2 : it - c3 < nz_2), Go G X 6 QQ 0 0 nx 127 [(0, .ref m), (1, .ref r), (2, vi L), (3, vi (c3 : Int))] [] h127 := by
                intro nz_2
                induction nz_2 with
                | zero => intro c3 S5 h127 hm__2 hn__2 hu__2 fr__2 hc3 hF hmz_2; exact absurd hmz_2 (Nat.not_lt_zero _)
                | succ nz_2 ih127 =>
                  intro c3 S5 h127 hm__2 hn__2 hu__2 fr__2 hc3 hF hmz_2
                  refine g_iload_n k rfl dX10_laysSteps_127 ?_
                  refine g_aload_n k rfl dX10_laysSteps_128 ?_
                  refine g_iconst k dX10_laysSteps_129 ?_
                  refine g_iald k 0 hn__2 (by omega) (by omega) (by decide) dX10_laysSteps_130 ?_
                  rw [show N 0 = (it : Int) from hR.i]
                  refine g_icmp_ge k (tgt := 241) (by omega) (by omega) dX10_laysSteps_131 (by decide) (fun c131 => ?_) (fun c131 => ?_)
                  · skip
                    rw [← hQQ]
                    refine g_retv k rfl dX10_laysSteps_241 ?_
                    have e : c3 = it := by omega
                    rw [e] at hF
                    exact ⟨⟨_, hu__2, hF.fin hS⟩, fr__2⟩
                  · skip
                    refine g_iconst k dX10_laysSteps_134 ?_
                    refine g_istore k (lv2 := [(0, .ref m), (1, .ref r), (2, vi L), (3, vi (c3 : Int)), (4, vi 0)]) (by decide) rfl rfl dX10_laysSteps_135 ?_
                    have K137 : ∀ (nz_3 : Nat) (a2 : Nat) (S6 : Nat → Int) (h137 : Hp) (hm__3 : h137 m = some (mo m s)) (hn__3 : h137 r = some (ai G 86 N)) (hu__3 : h137 (m + 11) = some (ai G 64 S6)) (fr__3 : ∀ q : Nat, q ≠ m + 11 → h137 q = h q) (ha2 : a2 ≤ it) (hFI : FI (A0 (EF φ 0) (wM 0 L) (wM 1 L)) it c3 a2 0 S6) (hmz_3 : it - a2 < nz_3), Go G X 6 QQ 0 0 nx 137 [(0, .ref m), (1, .ref r), (2, vi L), (3, vi (c3 : Int)), (4, vi (a2 : Int))] [] h137 := by
                      intro nz_3
                      induction nz_3 with
                      | zero => intro a2 S6 h137 hm__3 hn__3 hu__3 fr__3 ha2 hFI hmz_3; exact absurd hmz_3 (Nat.not_lt_zero _)
                      | succ nz_3 ih137 =>
                        intro a2 S6 h137 hm__3 hn__3 hu__3 fr__3 ha2 hFI hmz_3
                        refine g_iload k rfl dX10_laysSteps_137 ?_
                        refine g_aload_n k rfl dX10_laysSteps_139 ?_
                        refine g_iconst k dX10_laysSteps_140 ?_
                        refine g_iald k 0 hn__3 (by omega) (by omega) (by decide) dX10_laysSteps_141 ?_
                        rw [show N 0 = (it : Int) from hR.i]
                        refine g_icmp_ge k (tgt := 235) (by omega) (by omega) dX10_laysSteps_142 (by decide) (fun c142 => ?_) (fun c142 => ?_)
                        · skip
                          refine g_iinc k (lv2 := [(0, .ref m), (1, .ref r), (2, vi L), (3, vi ((c3 : Int) + 1)), (4, vi (a2 : Int))]) rfl (by decide) rfl rfl dX10_laysSteps_235 ?_
                          refine g_goto k (tgt := 127) dX10_laysSteps_238 (by decide) ?_
                          refine g_less (lv2 := [(0, .ref m), (1, .ref r), (2, vi L), (3, vi ((c3 : Int) + 1))]) ⟨rfl, rfl, rfl, rfl, trivial⟩ ?_
                          exact ih127 (c3 + 1) _ h137 hm__3 hn__3 hu__3 fr__3 (by omega) (by rw [show a2 = it by omega] at hFI; exact hFI.out) (by omega)
                        · skip
                          refine g_iconst k dX10_laysSteps_145 ?_
                          refine g_istore k (lv2 := [(0, .ref m), (1, .ref r), (2, vi L), (3, vi (c3 : Int)), (4, vi (a2 : Int)), (5, vi 0)]) (by decide) rfl rfl dX10_laysSteps_146 ?_
                          have K148 : ∀ (nz_4 : Nat) (b2 : Nat) (S7 : Nat → Int) (h148 : Hp) (hm__4 : h148 m = some (mo m s)) (hn__4 : h148 r = some (ai G 86 N)) (hu__4 : h148 (m + 11) = some (ai G 64 S7)) (fr__4 : ∀ q : Nat, q ≠ m + 11 → h148 q = h q) (hb2 : b2 ≤ it) (hFJ : FI (A0 (EF φ 0) (wM 0 L) (wM 1 L)) it c3 a2 b2 S7) (hmz_4 : it - b2 < nz_4), Go G X 6 QQ 0 0 nx 148 [(0, .ref m), (1, .ref r), (2, vi L), (3, vi (c3 : Int)), (4, vi (a2 : Int)), (5, vi (b2 : Int))] [] h148 := by
                            intro nz_4
                            induction nz_4 with
                            | zero => intro b2 S7 h148 hm__4 hn__4 hu__4 fr__4 hb2 hFJ hmz_4; exact absurd hmz_4 (Nat.not_lt_zero _)
                            | succ nz_4 ih148 =>
                              intro b2 S7 h148 hm__4 hn__4 hu__4 fr__4 hb2 hFJ hmz_4
                              refine g_iload k rfl dX10_laysSteps_148 ?_
                              refine g_aload_n k rfl dX10_laysSteps_150 ?_
                              refine g_iconst k dX10_laysSteps_151 ?_
                              refine g_iald k 0 hn__4 (by omega) (by omega) (by decide) dX10_laysSteps_152 ?_
                              rw [show N 0 = (it : Int) from hR.i]
                              refine g_icmp_ge k (tgt := 229) (by omega) (by omega) dX10_laysSteps_153 (by decide) (fun c153 => ?_) (fun c153 => ?_)
                              · skip
                                refine g_iinc k (lv2 := [(0, .ref m), (1, .ref r), (2, vi L), (3, vi (c3 : Int)), (4, vi ((a2 : Int) + 1)), (5, vi (b2 : Int))]) rfl (by decide) rfl rfl dX10_laysSteps_229 ?_
                                refine g_goto k (tgt := 137) dX10_laysSteps_232 (by decide) ?_
                                refine g_less (lv2 := [(0, .ref m), (1, .ref r), (2, vi L), (3, vi (c3 : Int)), (4, vi ((a2 : Int) + 1))]) ⟨rfl, rfl, rfl, rfl, rfl, trivial⟩ ?_
                                exact ih137 (a2 + 1) _ h148 hm__4 hn__4 hu__4 fr__4 (by omega) (by rw [show b2 = it by omega] at hFJ; exact hFJ.row) (by omega)
                              · skip
                                have r1 := hFJ.1 (a2 * 8 + c3) (by omega)
                                have r2 := hFJ.1 (c3 * 8 + b2) (by omega)
                                have r3 := hFJ.1 (a2 * 8 + b2) (by omega)
                                refine g_aload_n k rfl dX10_laysSteps_156 ?_
                                refine g_get k 10 20 (C := RX10) (T := TX10) (N := 38) fl_X10_103 rfl wi_X10 (by decide) rfl hm__4 rfl dX10_laysSteps_157 ?_
                                refine g_bipush k rfl dX10_laysSteps_160 ?_
                                refine g_iload k rfl dX10_laysSteps_162 ?_
                                refine g_imul k dX10_laysSteps_164 ?_
                                refine g_iload_n k rfl dX10_laysSteps_165 ?_
                                refine g_iadd k dX10_laysSteps_166 ?_
                                refine g_iald k (a2 * 8 + c3) hu__4 (by omega) (by omega) (by decide) dX10_laysSteps_167 ?_
                                refine g_ldc k (z := (-100000)) cn_X10_170 rfl dX10_laysSteps_168 ?_
                                refine g_icmp_le k (tgt := 223) (by omega) (by omega) dX10_laysSteps_170 (by decide) (fun c170 => ?_) (fun c170 => ?_)
                                · skip
                                  refine g_iinc k (lv2 := [(0, .ref m), (1, .ref r), (2, vi L), (3, vi (c3 : Int)), (4, vi (a2 : Int)), (5, vi ((b2 : Int) + 1))]) rfl (by decide) rfl rfl dX10_laysSteps_223 ?_
                                  refine g_goto k (tgt := 148) dX10_laysSteps_226 (by decide) ?_
                                  exact ih148 (b2 + 1) _ h148 hm__4 hn__4 hu__4 fr__4 (by omega) (hFJ.no hOB h8 (by omega) (by omega) (by omega) (Or.inl (by omega))) (by omega)
                                · skip
                                  refine g_aload_n k rfl dX10_laysSteps_173 ?_
                                  refine g_get k 10 20 (C := RX10) (T := TX10) (N := 38) fl_X10_103 rfl wi_X10 (by decide) rfl hm__4 rfl dX10_laysSteps_174 ?_
                                  refine g_bipush k rfl dX10_laysSteps_177 ?_
                                  refine g_iload_n k rfl dX10_laysSteps_179 ?_
                                  refine g_imul k dX10_laysSteps_180 ?_
                                  refine g_iload k rfl dX10_laysSteps_181 ?_
                                  refine g_iadd k dX10_laysSteps_183 ?_
                                  refine g_iald k (c3 * 8 + b2) hu__4 (by omega) (by omega) (by decide) dX10_laysSteps_184 ?_
                                  refine g_ldc k (z := (-100000)) cn_X10_170 rfl dX10_laysSteps_185 ?_
                                  refine g_icmp_le k (tgt := 223) (by omega) (by omega) dX10_laysSteps_187 (by decide) (fun c187 => ?_) (fun c187 => ?_)
                                  · skip
                                    refine g_iinc k (lv2 := [(0, .ref m), (1, .ref r), (2, vi L), (3, vi (c3 : Int)), (4, vi (a2 : Int)), (5, vi ((b2 : Int) + 1))]) rfl (by decide) rfl rfl dX10_laysSteps_223 ?_
                                    refine g_goto k (tgt := 148) dX10_laysSteps_226 (by decide) ?_
                                    exact ih148 (b2 + 1) _ h148 hm__4 hn__4 hu__4 fr__4 (by omega) (hFJ.no hOB h8 (by omega) (by omega) (by omega) (Or.inr (by omega))) (by omega)
                                  · skip
                                    refine g_aload_n k rfl dX10_laysSteps_190 ?_
                                    refine g_iload k rfl dX10_laysSteps_191 ?_
                                    refine g_iload k rfl dX10_laysSteps_193 ?_
                                    refine g_aload_n k rfl dX10_laysSteps_195 ?_
                                    refine g_get k 10 20 (C := RX10) (T := TX10) (N := 38) fl_X10_103 rfl wi_X10 (by decide) rfl hm__4 rfl dX10_laysSteps_196 ?_
                                    refine g_bipush k rfl dX10_laysSteps_199 ?_
                                    refine g_iload k rfl dX10_laysSteps_201 ?_
                                    refine g_imul k dX10_laysSteps_203 ?_
                                    refine g_iload_n k rfl dX10_laysSteps_204 ?_
                                    refine g_iadd k dX10_laysSteps_205 ?_
                                    refine g_iald k (a2 * 8 + c3) hu__4 (by omega) (by omega) (by decide) dX10_laysSteps_206 ?_
                                    refine g_aload_n k rfl dX10_laysSteps_207 ?_
                                    refine g_get k 10 20 (C := RX10) (T := TX10) (N := 38) fl_X10_103 rfl wi_X10 (by decide) rfl hm__4 rfl dX10_laysSteps_208 ?_
                                    refine g_bipush k rfl dX10_laysSteps_211 ?_
                                    refine g_iload_n k rfl dX10_laysSteps_213 ?_
                                    refine g_imul k dX10_laysSteps_214 ?_
                                    refine g_iload k rfl dX10_laysSteps_215 ?_
                                    refine g_iadd k dX10_laysSteps_217 ?_
                                    refine g_iald k (c3 * 8 + b2) hu__4 (by omega) (by omega) (by decide) dX10_laysSteps_218 ?_
                                    refine g_iadd k dX10_laysSteps_219 ?_
                                    rw [vi_wr ((S7 (a2 * 8 + c3)) + (S7 (c3 * 8 + b2)))]
                                    refine g_cVv k 10 (As := [vi (a2 : Int), vi (b2 : Int), vi (wr ((S7 (a2 * 8 + c3)) + (S7 (c3 * 8 + b2))))]) v_X10_longer rfl rfl hm__4 ml_X10_175 (c_X10_longer hm__4 hu__4 (x := a2) (y := b2) (by omega) (by omega) (wr_r _) (by omega)) (by omega) (by omega) rfl (Nat.le_of_ble_eq_true rfl) rfl dX10_laysSteps_220 (fun h220 p220 => ?_)
                                    obtain ⟨nu3, nfr3⟩ := p220
                                    have hm__5 : h220 m = some (mo m s) := (nfr3 _ (by omega)).trans hm__4
                                    have hn__5 : h220 r = some (ai G 86 N) := (nfr3 _ (by omega)).trans hn__4
                                    have hu__5 : h220 (m + 11) = some (ai G 64 (lgF S7 (a2 * 8 + b2) (wr (S7 (a2 * 8 + c3) + S7 (c3 * 8 + b2))))) := nu3
                                    have fr__5 : ∀ q : Nat, q ≠ m + 11 → h220 q = h q := fun q hq => (nfr3 q (by omega)).trans (fr__4 q hq)
                                    refine g_iinc k (lv2 := [(0, .ref m), (1, .ref r), (2, vi L), (3, vi (c3 : Int)), (4, vi (a2 : Int)), (5, vi ((b2 : Int) + 1))]) rfl (by decide) rfl rfl dX10_laysSteps_223 ?_
                                    refine g_goto k (tgt := 148) dX10_laysSteps_226 (by decide) ?_
                                    exact ih148 (b2 + 1) _ h220 hm__5 hn__5 hu__5 fr__5 (by omega) (hFJ.yes hOB h8 (by omega) (by omega) (by omega) (by omega) (by omega)) (by omega)
                          exact K148 _ 0 _ h137 hm__3 hn__3 hu__3 fr__3 (Nat.zero_le _) hFI (Nat.lt_succ_self _)
                    exact K137 _ 0 _ h127 hm__2 hn__2 hu__2 fr__2 (Nat.zero_le _) (hF.in (by omega)) (Nat.lt_succ_self _)
              exact K127 _ 0 _ h56 hm__1 hn__1 hu__1 fr__1 (Nat.zero_le _) (by rw [show c = φ.length by omega] at h0; exact h0.fs h8) (Nat.lt_succ_self _)
            · skip
              have hb1 := hsm c (by omega)
              have hw2 := wM_b (k := kd φ c) hL
              have b0 := h0.1 (fi φ c * 8 + se φ c) (by omega)
              refine g_aload_n k rfl dX10_laysSteps_63 ?_
              refine g_iconst k dX10_laysSteps_64 ?_
              refine g_iload_n k rfl dX10_laysSteps_65 ?_
              refine g_iadd k dX10_laysSteps_66 ?_
              refine g_iald k (2 + c) hn__1 (by omega) (by omega) (by decide) dX10_laysSteps_67 ?_
              rw [show N (2 + c) = (kd (φ) c : Int) from hR.k (by omega)]
              refine g_iload_n k rfl dX10_laysSteps_68 ?_
              refine g_cSi k (As := [vi (kd (φ) c : Int), vi L]) v_X10_weight ml_X10_171 (c_X10_weight (k1 := kd φ c) (by omega) (by omega)) (by omega) (by omega) rfl (Nat.le_of_ble_eq_true rfl) rfl dX10_laysSteps_69 (fun r69 h69 p69 => ?_)
              obtain ⟨eh69, p69⟩ := p69
              have eh69 := eh69.symm; subst eh69
              subst p69
              refine g_istore k (lv2 := [(0, .ref m), (1, .ref r), (2, vi L), (3, vi (c : Int)), (4, vi (wM (kd φ c) L))]) (by decide) rfl rfl dX10_laysSteps_72 ?_
              refine g_aload_n k rfl dX10_laysSteps_74 ?_
              refine g_aload_n k rfl dX10_laysSteps_75 ?_
              refine g_bipush k rfl dX10_laysSteps_76 ?_
              refine g_iload_n k rfl dX10_laysSteps_78 ?_
              refine g_iadd k dX10_laysSteps_79 ?_
              refine g_iald k (30 + c) hn__1 (by omega) (by omega) (by decide) dX10_laysSteps_80 ?_
              rw [show N (30 + c) = (fi (φ) c : Int) from hR.f (by omega)]
              refine g_aload_n k rfl dX10_laysSteps_81 ?_
              refine g_bipush k rfl dX10_laysSteps_82 ?_
              refine g_iload_n k rfl dX10_laysSteps_84 ?_
              refine g_iadd k dX10_laysSteps_85 ?_
              refine g_iald k (58 + c) hn__1 (by omega) (by omega) (by decide) dX10_laysSteps_86 ?_
              rw [show N (58 + c) = (se (φ) c : Int) from hR.s (by omega)]
              refine g_iload k rfl dX10_laysSteps_87 ?_
              refine g_cVv k 10 (As := [vi (fi (φ) c : Int), vi (se (φ) c : Int), vi (wM (kd φ c) L)]) v_X10_longer rfl rfl hm__1 ml_X10_175 (c_X10_longer hm__1 hu__1 (x := fi φ c) (y := se φ c) (by omega) (by omega) (by omega) (by omega)) (by omega) (by omega) rfl (Nat.le_of_ble_eq_true rfl) rfl dX10_laysSteps_89 (fun h89 p89 => ?_)
              obtain ⟨nu, nfr⟩ := p89
              have hm__6 : h89 m = some (mo m s) := (nfr _ (by omega)).trans hm__1
              have hn__6 : h89 r = some (ai G 86 N) := (nfr _ (by omega)).trans hn__1
              have hu__6 : h89 (m + 11) = some (ai G 64 (lgF S4 (fi φ c * 8 + se φ c) (wM (kd φ c) L))) := nu
              have fr__6 : ∀ q : Nat, q ≠ m + 11 → h89 q = h q := fun q hq => (nfr q (by omega)).trans (fr__1 q hq)
              refine g_aload_n k rfl dX10_laysSteps_92 ?_
              refine g_iconst k dX10_laysSteps_93 ?_
              refine g_iload_n k rfl dX10_laysSteps_94 ?_
              refine g_iadd k dX10_laysSteps_95 ?_
              refine g_iald k (2 + c) hn__6 (by omega) (by omega) (by decide) dX10_laysSteps_96 ?_
              rw [show N (2 + c) = (kd (φ) c : Int) from hR.k (by omega)]
              refine g_iconst k dX10_laysSteps_97 ?_
              refine g_icmp_ne k (tgt := 119) (by omega) (by omega) dX10_laysSteps_98 (by decide) (fun c98 => ?_) (fun c98 => ?_)
              · skip
                refine g_iinc k (lv2 := [(0, .ref m), (1, .ref r), (2, vi L), (3, vi ((c : Int) + 1)), (4, vi (wM (kd φ c) L))]) rfl (by decide) rfl rfl dX10_laysSteps_119 ?_
                refine g_goto k (tgt := 56) dX10_laysSteps_122 (by decide) ?_
                refine g_less (lv2 := [(0, .ref m), (1, .ref r), (2, vi L), (3, vi ((c : Int) + 1))]) ⟨rfl, rfl, rfl, rfl, trivial⟩ ?_
                have hk0 : kd φ c = 0 := by omega
                rw [hk0] at hu__6
                exact ih56 (c + 1) _ h89 hm__6 hn__6 hu__6 fr__6 (by omega) (h0.s0 hS (by omega) (by omega) hk0) (by omega)
              · skip
                have hk1 : kd φ c = 1 := by omega
                have b1 : lgF S4 (fi φ c * 8 + se φ c) (wM (kd φ c) L) (se φ c * 8 + fi φ c) = S4 (se φ c * 8 + fi φ c) := lgF_n (by omega)
                have b2 := h0.1 (se φ c * 8 + fi φ c) (by omega)
                refine g_aload_n k rfl dX10_laysSteps_101 ?_
                refine g_aload_n k rfl dX10_laysSteps_102 ?_
                refine g_bipush k rfl dX10_laysSteps_103 ?_
                refine g_iload_n k rfl dX10_laysSteps_105 ?_
                refine g_iadd k dX10_laysSteps_106 ?_
                refine g_iald k (58 + c) hn__6 (by omega) (by omega) (by decide) dX10_laysSteps_107 ?_
                rw [show N (58 + c) = (se (φ) c : Int) from hR.s (by omega)]
                refine g_aload_n k rfl dX10_laysSteps_108 ?_
                refine g_bipush k rfl dX10_laysSteps_109 ?_
                refine g_iload_n k rfl dX10_laysSteps_111 ?_
                refine g_iadd k dX10_laysSteps_112 ?_
                refine g_iald k (30 + c) hn__6 (by omega) (by omega) (by decide) dX10_laysSteps_113 ?_
                rw [show N (30 + c) = (fi (φ) c : Int) from hR.f (by omega)]
                refine g_iload k rfl dX10_laysSteps_114 ?_
                refine g_cVv k 10 (As := [vi (se (φ) c : Int), vi (fi (φ) c : Int), vi (wM (kd φ c) L)]) v_X10_longer rfl rfl hm__6 ml_X10_175 (c_X10_longer hm__6 hu__6 (x := se φ c) (y := fi φ c) (by omega) (by omega) (by omega) (by rw [b1]; omega)) (by omega) (by omega) rfl (Nat.le_of_ble_eq_true rfl) rfl dX10_laysSteps_116 (fun h116 p116 => ?_)
                obtain ⟨nu2, nfr2⟩ := p116
                have hm__7 : h116 m = some (mo m s) := (nfr2 _ (by omega)).trans hm__6
                have hn__7 : h116 r = some (ai G 86 N) := (nfr2 _ (by omega)).trans hn__6
                have hu__7 : h116 (m + 11) = some (ai G 64 (lgF (lgF S4 (fi φ c * 8 + se φ c) (wM (kd φ c) L)) (se φ c * 8 + fi φ c) (wM (kd φ c) L))) := nu2
                have fr__7 : ∀ q : Nat, q ≠ m + 11 → h116 q = h q := fun q hq => (nfr2 q (by omega)).trans (fr__6 q hq)
                refine g_iinc k (lv2 := [(0, .ref m), (1, .ref r), (2, vi L), (3, vi ((c : Int) + 1)), (4, vi (wM (kd φ c) L))]) rfl (by decide) rfl rfl dX10_laysSteps_119 ?_
                refine g_goto k (tgt := 56) dX10_laysSteps_122 (by decide) ?_
                refine g_less (lv2 := [(0, .ref m), (1, .ref r), (2, vi L), (3, vi ((c : Int) + 1))]) ⟨rfl, rfl, rfl, rfl, trivial⟩ ?_
                rw [hk1] at hu__7
                exact ih56 (c + 1) _ h116 hm__7 hn__7 hu__7 fr__7 (by omega) (h0.s1 hS (by omega) (by omega) (by omega)) (by omega)
        exact K56 _ 0 _ h2 hm_ hn_ hu_ fr_ (Nat.zero_le _) (M0.nil (fun u v hu hv => hi u v (by omega) hv)) (Nat.lt_succ_self _)
      · skip
        refine g_iconst k dX10_laysSteps_8 ?_
        refine g_istore k (lv2 := [(0, .ref m), (1, .ref r), (2, vi L), (3, vi (a : Int)), (4, vi 0)]) (by decide) rfl rfl dX10_laysSteps_9 ?_
        have K11 : ∀ (nz_5 : Nat) (b : Nat) (S3 : Nat → Int) (h11 : Hp) (hm__8 : h11 m = some (mo m s)) (hn__8 : h11 r = some (ai G 86 N)) (hu__8 : h11 (m + 11) = some (ai G 64 S3)) (fr__8 : ∀ q : Nat, q ≠ m + 11 → h11 q = h q) (hb : b ≤ 8) (hi3 : ∀ u v, (u < a ∨ (u = a ∧ v < b)) → v < 8 → S3 (u * 8 + v) = if u = v then 0 else -100000) (hmz_5 : 8 - b < nz_5), Go G X 6 QQ 0 0 nx 11 [(0, .ref m), (1, .ref r), (2, vi L), (3, vi (a : Int)), (4, vi (b : Int))] [] h11 := by
          intro nz_5
          induction nz_5 with
          | zero => intro b S3 h11 hm__8 hn__8 hu__8 fr__8 hb hi3 hmz_5; exact absurd hmz_5 (Nat.not_lt_zero _)
          | succ nz_5 ih11 =>
            intro b S3 h11 hm__8 hn__8 hu__8 fr__8 hb hi3 hmz_5
            refine g_iload k rfl dX10_laysSteps_11 ?_
            refine g_bipush k rfl dX10_laysSteps_13 ?_
            refine g_icmp_ge k (tgt := 48) (by omega) (by omega) dX10_laysSteps_15 (by decide) (fun c15 => ?_) (fun c15 => ?_)
            · skip
              refine g_iinc k (lv2 := [(0, .ref m), (1, .ref r), (2, vi L), (3, vi ((a : Int) + 1)), (4, vi (b : Int))]) rfl (by decide) rfl rfl dX10_laysSteps_48 ?_
              refine g_goto k (tgt := 2) dX10_laysSteps_51 (by decide) ?_
              refine g_less (lv2 := [(0, .ref m), (1, .ref r), (2, vi L), (3, vi ((a : Int) + 1))]) ⟨rfl, rfl, rfl, rfl, trivial⟩ ?_
              exact ih2 (a + 1) _ h11 hm__8 hn__8 hu__8 fr__8 (by omega) (fun u v g hv => hi3 u v (by omega) hv) (by omega)
            · skip
              refine g_aload_n k rfl dX10_laysSteps_18 ?_
              refine g_get k 10 20 (C := RX10) (T := TX10) (N := 38) fl_X10_103 rfl wi_X10 (by decide) rfl hm__8 rfl dX10_laysSteps_19 ?_
              refine g_bipush k rfl dX10_laysSteps_22 ?_
              refine g_iload_n k rfl dX10_laysSteps_24 ?_
              refine g_imul k dX10_laysSteps_25 ?_
              refine g_iload k rfl dX10_laysSteps_26 ?_
              refine g_iadd k dX10_laysSteps_28 ?_
              refine g_iload_n k rfl dX10_laysSteps_29 ?_
              refine g_iload k rfl dX10_laysSteps_30 ?_
              refine g_icmp_ne k (tgt := 39) (by omega) (by omega) dX10_laysSteps_32 (by decide) (fun c32 => ?_) (fun c32 => ?_)
              · skip
                refine g_ldc k (z := (-100000)) cn_X10_170 rfl dX10_laysSteps_39 ?_
                refine g_iast k (a * 8 + b) hu__8 (by omega) (by omega) (by decide) dX10_laysSteps_41 (fun h41 eh41 => ?_)
                have hm__9 : h41 m = some (mo m s) := (congrFun eh41 _).trans ((hup_n (by omega)).trans hm__8)
                have hn__9 : h41 r = some (ai G 86 N) := (congrFun eh41 _).trans ((hup_n (by omega)).trans hn__8)
                have hu__9 : h41 (m + 11) = some (ai G 64 (fu S3 (a * 8 + b) (-100000))) := (congrFun eh41 _).trans hup_s
                have fr__9 : ∀ q : Nat, q ≠ m + 11 → h41 q = h q := fun q hq => (congrFun eh41 q).trans ((hup_n (by omega)).trans (fr__8 q hq))
                refine g_iinc k (lv2 := [(0, .ref m), (1, .ref r), (2, vi L), (3, vi (a : Int)), (4, vi ((b : Int) + 1))]) rfl (by decide) rfl rfl dX10_laysSteps_42 ?_
                refine g_goto k (tgt := 11) dX10_laysSteps_45 (by decide) ?_
                exact ih11 (b + 1) _ h41 hm__9 hn__9 hu__9 fr__9 (by omega) (fun u v g hv => by by_cases e : u = a ∧ v = b; (rw [e.1, e.2, fu_s, if_neg (by omega)]); (rw [fu_n (fun g2 => e (ix8 hv (by omega) g2))]; exact hi3 u v (by omega) hv)) (by omega)
              · skip
                refine g_iconst k dX10_laysSteps_35 ?_
                refine g_goto k (tgt := 41) dX10_laysSteps_36 (by decide) ?_
                refine g_iast k (a * 8 + b) hu__8 (by omega) (by omega) (by decide) dX10_laysSteps_41 (fun h41_1 eh41_1 => ?_)
                have hm__10 : h41_1 m = some (mo m s) := (congrFun eh41_1 _).trans ((hup_n (by omega)).trans hm__8)
                have hn__10 : h41_1 r = some (ai G 86 N) := (congrFun eh41_1 _).trans ((hup_n (by omega)).trans hn__8)
                have hu__10 : h41_1 (m + 11) = some (ai G 64 (fu S3 (a * 8 + b) 0)) := (congrFun eh41_1 _).trans hup_s
                have fr__10 : ∀ q : Nat, q ≠ m + 11 → h41_1 q = h q := fun q hq => (congrFun eh41_1 q).trans ((hup_n (by omega)).trans (fr__8 q hq))
                refine g_iinc k (lv2 := [(0, .ref m), (1, .ref r), (2, vi L), (3, vi (a : Int)), (4, vi ((b : Int) + 1))]) rfl (by decide) rfl rfl dX10_laysSteps_42 ?_
                refine g_goto k (tgt := 11) dX10_laysSteps_45 (by decide) ?_
                exact ih11 (b + 1) _ h41_1 hm__10 hn__10 hu__10 fr__10 (by omega) (fun u v g hv => by by_cases e : u = a ∧ v = b; (rw [e.1, e.2, fu_s, if_pos (by omega)]); (rw [fu_n (fun g2 => e (ix8 hv (by omega) g2))]; exact hi3 u v (by omega) hv)) (by omega)
        exact K11 _ 0 _ h2 hm_ hn_ hu_ fr_ (Nat.zero_le _) (fun u v g hv => hi u v (by omega) hv) (Nat.lt_succ_self _)
  exact K2 _ 0 _ h hm hn hu fr0 (Nat.zero_le _) (fun u v g => absurd g (Nat.not_lt_zero u)) (Nat.lt_succ_self _)

set_option maxHeartbeats 600000 in
set_option maxRecDepth 100000 in
theorem c_X10_isEven {G : Gx} {h : Hp} {nx : Nat} {m : Nat} {s : Nat → Int} (hm : h m = some (mo m s)) {r : Nat} {N : Nat → Int} {it : Nat} {φ : Fs} (hn : h r = some (ai G 86 N)) (hR : Rw N it φ) (hS : Sm it φ) (hrm : r ≠ m + 11) {S : Nat → Int} (hu : h (m + 11) = some (ai G 64 S)) {L : Int} (hL : 0 ≤ L ∧ L ≤ 60) : Con G yX10_isEven cX10_isEven 4 (some .boolean) 3 0 0 [.ref m, .ref r, vi L] h nx (PI fun z h' => bz (Fe φ 0 (wM 0 L) (wM 1 L)) z ∧ (∃ S2 : Nat → Int, h' (m + 11) = some (ai G 64 S2) ∧ FwP φ it (wM 0 L) (wM 1 L) S2) ∧ ∀ q : Nat, q ≠ m + 11 → h' q = h q) := by
  obtain ⟨h8, h28, hsm⟩ := id hS
  refine Con.of v_X10_isEven.2.2.2.2.2.1 (Nat.le_of_ble_eq_true rfl) (lv := [(0, .ref m), (1, .ref r), (2, vi L)]) rfl (fun X k => ?_)
  generalize hQQ : QM G X nx 0 0 _ = QQ
  have fr0 : ∀ q : Nat, q ≠ m + 11 → h q = h q := fun _ _ => rfl
  refine g_aload_n k rfl dX10_isEven_0 ?_
  refine g_aload_n k rfl dX10_isEven_1 ?_
  refine g_iload_n k rfl dX10_isEven_2 ?_
  refine g_cVv k 10 (As := [.ref r, vi L]) v_X10_laysSteps rfl rfl hm ml_X10_179 (c_X10_laysSteps hm hn hR hS hrm hu (L := L) hL) (by omega) (by omega) rfl (Nat.le_of_ble_eq_true rfl) rfl dX10_isEven_3 (fun h3 p3 => ?_)
  obtain ⟨⟨S2, nu, hP⟩, nfr⟩ := p3
  have hm_ : h3 m = some (mo m s) := (nfr _ (by omega)).trans hm
  have hn_ : h3 r = some (ai G 86 N) := (nfr _ (by omega)).trans hn
  have hu_ : h3 (m + 11) = some (ai G 64 S2) := nu
  have fr_ : ∀ q : Nat, q ≠ m + 11 → h3 q = h q := fun q hq => (nfr q (by omega)).trans (fr0 q hq)
  refine g_iconst k dX10_isEven_6 ?_
  refine g_istore_n k (lv2 := [(0, .ref m), (1, .ref r), (2, vi L), (3, vi 0)]) (by decide) rfl rfl dX10_isEven_7 ?_
  have K8 : ∀ (nz : Nat) (v : Nat) (hv : v ≤ it) (hno : ∀ j, j < v → S2 (j * 8 + j) ≤ 0) (hmz : it - v < nz), Go G X 4 QQ 0 0 nx 8 [(0, .ref m), (1, .ref r), (2, vi L), (3, vi (v : Int))] [] h3 := by
    intro nz
    induction nz with
    | zero => intro v hv hno hmz; exact absurd hmz (Nat.not_lt_zero _)
    | succ nz ih8 =>
      intro v hv hno hmz
      refine g_iload_n k rfl dX10_isEven_8 ?_
      refine g_aload_n k rfl dX10_isEven_9 ?_
      refine g_iconst k dX10_isEven_10 ?_
      refine g_iald k 0 hn_ (by omega) (by omega) (by decide) dX10_isEven_11 ?_
      rw [show N 0 = (it : Int) from hR.i]
      refine g_icmp_ge k (tgt := 37) (by omega) (by omega) dX10_isEven_12 (by decide) (fun c12 => ?_) (fun c12 => ?_)
      · skip
        refine g_iconst k dX10_isEven_37 ?_
        rw [← hQQ]
        refine g_zreti k (by omega) rfl dX10_isEven_38 ?_
        exact ⟨bz.y (hP.2.1.mp (fun j hj => hno j (by omega))), ⟨S2, hu_, hP⟩, fr_⟩
      · skip
        have b0 := hP.1 (v * 8 + v) (by omega)
        refine g_aload_n k rfl dX10_isEven_15 ?_
        refine g_get k 10 20 (C := RX10) (T := TX10) (N := 38) fl_X10_103 rfl wi_X10 (by decide) rfl hm_ rfl dX10_isEven_16 ?_
        refine g_bipush k rfl dX10_isEven_19 ?_
        refine g_iload_n k rfl dX10_isEven_21 ?_
        refine g_imul k dX10_isEven_22 ?_
        refine g_iload_n k rfl dX10_isEven_23 ?_
        refine g_iadd k dX10_isEven_24 ?_
        refine g_iald k (v * 8 + v) hu_ (by omega) (by omega) (by decide) dX10_isEven_25 ?_
        refine g_if_le k (tgt := 31) (by omega) dX10_isEven_26 (by decide) (fun c26 => ?_) (fun c26 => ?_)
        · skip
          refine g_iinc k (lv2 := [(0, .ref m), (1, .ref r), (2, vi L), (3, vi ((v : Int) + 1))]) rfl (by decide) rfl rfl dX10_isEven_31 ?_
          refine g_goto k (tgt := 8) dX10_isEven_34 (by decide) ?_
          exact ih8 (v + 1) (by omega) (lt_s2 hno (by omega)) (by omega)
        · skip
          refine g_iconst k dX10_isEven_29 ?_
          rw [← hQQ]
          refine g_zreti k (by omega) rfl dX10_isEven_30 ?_
          exact ⟨bz.n (fun q => by have := hP.2.1.mpr q v (by omega); omega), ⟨S2, hu_, hP⟩, fr_⟩
  exact K8 _ 0 (Nat.zero_le _) (fun j hj => absurd hj (Nat.not_lt_zero j)) (Nat.lt_succ_self _)

set_option maxHeartbeats 600000 in
set_option maxRecDepth 100000 in
theorem c_X10_isGood {G : Gx} {h : Hp} {nx : Nat} {m : Nat} {s : Nat → Int} (hm : h m = some (mo m s)) {r : Nat} {N : Nat → Int} {it : Nat} {φ : Fs} (hn : h r = some (ai G 86 N)) (hR : Rw N it φ) (hS : Sm it φ) (hrm : r ≠ m + 11) {S : Nat → Int} (hu : h (m + 11) = some (ai G 64 S)) : Con G yX10_isGood cX10_isGood 2 (some .boolean) 4 0 0 [.ref m, .ref r] h nx (PI fun z h' => bz (Good φ) z ∧ (∃ S2 : Nat → Int, h' (m + 11) = some (ai G 64 S2)) ∧ ∀ q : Nat, q ≠ m + 11 → h' q = h q) := by
  refine Con.of v_X10_isGood.2.2.2.2.2.1 (Nat.le_of_ble_eq_true rfl) (lv := [(0, .ref m), (1, .ref r)]) rfl (fun X k => ?_)
  generalize hQQ : QM G X nx 0 0 _ = QQ
  have fr0 : ∀ q : Nat, q ≠ m + 11 → h q = h q := fun _ _ => rfl
  refine g_aload_n k rfl dX10_isGood_0 ?_
  refine g_aload_n k rfl dX10_isGood_1 ?_
  refine g_iconst k dX10_isGood_2 ?_
  refine g_cVi k 10 (As := [.ref r, vi 0]) v_X10_isEven rfl rfl hm ml_X10_183 (c_X10_isEven hm hn hR hS hrm hu (L := 0) (by omega)) (by omega) (by omega) rfl (Nat.le_of_ble_eq_true rfl) rfl dX10_isGood_3 (fun r3 h3 p3 => ?_)
  obtain ⟨hz, ⟨S2, nu, hP⟩, nfr⟩ := p3
  have hm_ : h3 m = some (mo m s) := (nfr _ (by omega)).trans hm
  have hn_ : h3 r = some (ai G 86 N) := (nfr _ (by omega)).trans hn
  have hu_ : h3 (m + 11) = some (ai G 64 S2) := nu
  have fr_ : ∀ q : Nat, q ≠ m + 11 → h3 q = h q := fun q hq => (nfr q (by omega)).trans (fr0 q hq)
  rw [← hQQ]
  refine g_zreti k hz.rg rfl dX10_isGood_6 ?_
  refine ⟨?_, ⟨S2, hu_⟩, fr_⟩
  rcases hz with ⟨a1, a2⟩ | ⟨a1, a2⟩
  · exact Or.inl ⟨(Fe_gd hS).mp a1, a2⟩
  · exact Or.inr ⟨fun q => a1 ((Fe_gd hS).mpr q), a2⟩

set_option maxHeartbeats 600000 in
set_option maxRecDepth 100000 in
theorem c_X10_leastOf {G : Gx} {h : Hp} {nx : Nat} {m : Nat} {s : Nat → Int} (hm : h m = some (mo m s)) {r : Nat} {N : Nat → Int} {it : Nat} {φ : Fs} (hn : h r = some (ai G 86 N)) (hR : Rw N it φ) (hS : Sm it φ) (hrm : r ≠ m + 11) {S : Nat → Int} (hu : h (m + 11) = some (ai G 64 S)) {L : Nat} (hL : isL φ it L) : Con G yX10_leastOf cX10_leastOf 3 (some .int) 4 0 0 [.ref m, .ref r] h nx (PI fun z h' => z = (L : Int) ∧ (∃ S2 : Nat → Int, h' (m + 11) = some (ai G 64 S2)) ∧ ∀ q : Nat, q ≠ m + 11 → h' q = h q) := by
  obtain ⟨l1, l2, l3, l4⟩ := hL
  refine Con.of v_X10_leastOf.2.2.2.2.2.1 (Nat.le_of_ble_eq_true rfl) (lv := [(0, .ref m), (1, .ref r)]) rfl (fun X k => ?_)
  generalize hQQ : QM G X nx 0 0 _ = QQ
  have fr0 : ∀ q : Nat, q ≠ m + 11 → h q = h q := fun _ _ => rfl
  refine g_iconst k dX10_leastOf_0 ?_
  refine g_istore_n k (lv2 := [(0, .ref m), (1, .ref r), (2, vi 1)]) (by decide) rfl rfl dX10_leastOf_1 ?_
  have K2 : ∀ (nz : Nat) (v : Nat) (S1 : Nat → Int) (h2 : Hp) (hm_ : h2 m = some (mo m s)) (hn_ : h2 r = some (ai G 86 N)) (hu_ : h2 (m + 11) = some (ai G 64 S1)) (fr_ : ∀ q : Nat, q ≠ m + 11 → h2 q = h q) (hv : 1 ≤ v ∧ v ≤ L) (hmz : L - v < nz), Go G X 3 QQ 0 0 nx 2 [(0, .ref m), (1, .ref r), (2, vi (v : Int))] [] h2 := by
    intro nz
    induction nz with
    | zero => intro v S1 h2 hm_ hn_ hu_ fr_ hv hmz; exact absurd hmz (Nat.not_lt_zero _)
    | succ nz ih2 =>
      intro v S1 h2 hm_ hn_ hu_ fr_ hv hmz
      refine g_aload_n k rfl dX10_leastOf_2 ?_
      refine g_aload_n k rfl dX10_leastOf_3 ?_
      refine g_iload_n k rfl dX10_leastOf_4 ?_
      refine g_cVi k 10 (As := [.ref r, vi (v : Int)]) v_X10_isEven rfl rfl hm_ ml_X10_183 (c_X10_isEven hm_ hn_ hR hS hrm hu_ (L := (v : Int)) (by omega)) (by omega) (by omega) rfl (Nat.le_of_ble_eq_true rfl) rfl dX10_leastOf_5 (fun r5 h5 p5 => ?_)
      obtain ⟨hz, ⟨S2, nu, hP⟩, nfr⟩ := p5
      have hm__1 : h5 m = some (mo m s) := (nfr _ (by omega)).trans hm_
      have hn__1 : h5 r = some (ai G 86 N) := (nfr _ (by omega)).trans hn_
      have hu__1 : h5 (m + 11) = some (ai G 64 S2) := nu
      have fr__1 : ∀ q : Nat, q ≠ m + 11 → h5 q = h q := fun q hq => (nfr q (by omega)).trans (fr_ q hq)
      have hzr := hz.r
      have hfs := Fe_st (it := it) hS (L := (v : Int)) (by omega)
      refine g_if_ne k (tgt := 17) (by omega) dX10_leastOf_8 (by decide) (fun c8 => ?_) (fun c8 => ?_)
      · skip
        refine g_iload_n k rfl dX10_leastOf_17 ?_
        rw [← hQQ]
        refine g_ireti k rfl dX10_leastOf_18 ?_
        have hy := hfs.mp (hz.t (by omega))
        have e : v = L := Nat.le_antisymm hv.2 (Nat.not_lt.mp (fun g => l4 v hv.1 g hy))
        exact ⟨by rw [e], ⟨S2, hu__1⟩, fr__1⟩
      · skip
        have hlt : v < L := Nat.lt_of_le_of_ne hv.2 (fun e => hz.f (by omega) (hfs.mpr (by rw [e]; exact l3)))
        refine g_iinc k (lv2 := [(0, .ref m), (1, .ref r), (2, vi ((v : Int) + 1))]) rfl (by decide) rfl rfl dX10_leastOf_11 ?_
        refine g_goto k (tgt := 2) dX10_leastOf_14 (by decide) ?_
        exact ih2 (v + 1) _ h5 hm__1 hn__1 hu__1 fr__1 (by omega) (by omega)
  exact K2 _ 1 _ h hm hn hu fr0 ⟨Nat.le_refl _, l1⟩ (Nat.lt_succ_self _)

