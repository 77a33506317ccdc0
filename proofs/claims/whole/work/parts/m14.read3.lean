/-! Reading: kinds 3 and 4. -/
def q_P (n a : Nat) (rw : Nat → Int32) (sm : Nat → Int64) (X : Option (Int64 × Int32)) (Y : Option (Int64 × Int32 × Int32)) : Prop :=
  q_rr n a (X.bind fun (v9, v10) => some (v9, v10)) (Y.bind fun (v19, v20, v21) => jS_X2_reads_196 rw (nI n) sm v19 (nI a) v20 v21)
theorem q_Pok {n a : Nat} {rw : Nat → Int32} {sm : Nat → Int64} {X : Option (Int64 × Int32)} {Y : Option (Int64 × Int32 × Int32)} {v e : Nat} (hC : X = some (lN v, nI e)) (hM : Y = some (lN v, nI e, nI 0)) (hv : q_num v) (h1 : a ≤ e) (h2 : e ≤ n) : q_P n a rw sm X Y := by
  unfold q_P
  rw [hC, hM, Option.bind_some, Option.bind_some]
  exact Or.inl ⟨v, e, hv, h1, h2, rfl, q_196 hv⟩
theorem q_Pno {n a : Nat} {rw : Nat → Int32} {sm : Nat → Int64} {X : Option (Int64 × Int32)} {Y : Option (Int64 × Int32 × Int32)} (hC : ∃ r c, X = some (r, nI c) ∧ (r = -1 ∨ n < c) ∧ c < 2147483648) (hM : (∃ x y, Y = some (x, y, nI 1)) ∨ ∃ V y no, 4611686018427387904 < V ∧ V < 9223372036854775808 ∧ Y = some (lN V, y, no)) : q_P n a rw sm X Y := by
  obtain ⟨r, c, e1, h1, h2⟩ := hC
  unfold q_P
  rw [e1, Option.bind_some]
  refine Or.inr ⟨⟨r, nI c, rfl, ?_⟩, ?_⟩
  · rcases h1 with h1 | h1
    · exact Or.inl h1
    · exact Or.inr ⟨c, h1, h2, rfl⟩
  · rcases hM with ⟨x, y, e2⟩ | ⟨V, y, no, v1, v2, e2⟩
    · rw [e2, Option.bind_some]
      exact q_196n (rw := rw) (mn := nI n) (sm := sm) (x := x) (a := a) (fr := y)
    · rw [e2, Option.bind_some]
      exact q_196b (rw := rw) (mn := nI n) (sm := sm) (a := a) (fr := y) (no := no) v1 v2
theorem q_omOut {w : Nat → Int64} {f : Nat → Nat} {n : Nat} (h : q_row w f n) {v c g z : Nat} (hv : v < 9223372036854775808) (hc : n < c) (hc2 : c < 900000) (hg : g ≤ 8) : ∃ r c', jL_X1_readOmega_4 w (nI n) (z + 1) (lN v) (nI g) (nI c) = some (r, nI c') ∧ (r = -1 ∨ n < c') ∧ c' < 2147483648 := by
  show ∃ r c', (if nI 8 ≤ nI g then (some ((-1 : Int64), nI c)) else ((j_X0_readBit w (nI n) (nI c)).bind fun (v402, v403) => (if v402 = (0 : Int32) then ((j_X1_numberOrNone (lN v)).bind fun v408 => (some (v408, v403))) else _))) = some (r, nI c') ∧ _
  by_cases d : nI 8 ≤ nI g
  · rw [if_pos d]
    exact ⟨_, c, rfl, Or.inl rfl, by omega⟩
  · rw [if_neg d, q_readBit h (by omega), Option.bind_some]
    show ∃ r c', (if nI (f c) = (0 : Int32) then ((j_X1_numberOrNone (lN v)).bind fun v408 => (some (v408, nI (c + 1)))) else _) = some (r, nI c') ∧ _
    rw [if_pos (by rw [h.2.1 c (by omega)]; rfl), q_nnE hv, Option.bind_some]
    exact ⟨_, c + 1, rfl, Or.inr (by omega), by omega⟩
theorem q_chOut {rw : Nat → Int32} {mn : Int32} {z : Nat} {x : Int64} {fr : Int32} : jL_X2_readChain_2 rw mn (z + 1) x fr (nI 1) = some (x, fr, nI 1) := by
  show (if nI 1 = (0 : Int32) then _ else some (x, fr, nI 1)) = _
  rw [if_neg (by decide)]
theorem q_omStep {w : Nat → Int64} {rw : Nat → Int32} {sm : Nat → Int64} {f : Nat → Nat} {n a : Nat} (h : q_row w f n) (hm : q_rm rw f n) {v c g z1 z2 : Nat} (v1 : 1 ≤ v) (hv : v < 9223372036854775808) (ha : a ≤ c) (hc : c ≤ n) (hg : g < 8) : q_P n a rw sm (jL_X1_readOmega_4 w (nI n) (z1 + 2) (lN v) (nI g) (nI c)) (jL_X2_readChain_2 rw (nI n) (z2 + 2) (lN v) (nI c) (nI 0)) ∨ (∃ v' c', v ≤ 62 ∧ 2 ^ v ≤ v' ∧ v' < 9223372036854775808 ∧ a ≤ c' ∧ c' ≤ n ∧ jL_X1_readOmega_4 w (nI n) (z1 + 2) (lN v) (nI g) (nI c) = jL_X1_readOmega_4 w (nI n) (z1 + 1) (lN v') (nI (g + 1)) (nI c') ∧ jL_X2_readChain_2 rw (nI n) (z2 + 2) (lN v) (nI c) (nI 0) = jL_X2_readChain_2 rw (nI n) (z2 + 1) (lN v') (nI c') (nI 0)) := by
  have hf := h.2.2.2
  have hn := h.2.2.1
  have hfc := hf c
  have eC : jL_X1_readOmega_4 w (nI n) (z1 + 2) (lN v) (nI g) (nI c) = (if nI (f c) = (0 : Int32) then some (q_nn v, nI (c + 1)) else (if lN v < (63 : Int64) then ((j_X0_readBits w (nI n) (nI (c + 1)) (1 : Int64) (lN v).toInt32).bind fun (v406, v407) => (jL_X1_readOmega_4 w (nI n) (z1 + 1) v406 (nI g + (1 : Int32)) v407)) else (some ((-1 : Int64), nI (c + 1))))) := by
    show (if nI 8 ≤ nI g then (some ((-1 : Int64), nI c)) else ((j_X0_readBit w (nI n) (nI c)).bind fun (v402, v403) => (if v402 = (0 : Int32) then ((j_X1_numberOrNone (lN v)).bind fun v408 => (some (v408, v403))) else _))) = _
    rw [if_neg (fun h9 => by have := (q_le (by omega) (by omega)).mp h9; omega), q_readBit h (by omega), Option.bind_some]
    show (if nI (f c) = (0 : Int32) then ((j_X1_numberOrNone (lN v)).bind fun v408 => (some (v408, nI (c + 1)))) else _) = _
    rw [q_nnE hv, Option.bind_some]
  have eM : jL_X2_readChain_2 rw (nI n) (z2 + 2) (lN v) (nI c) (nI 0) = (j_X2_next rw (nI n) (nI c) (nI 0)).bind fun (v202, v203, v204) => (if v202 = (1 : Int32) then (if lN v ≤ (62 : Int64) then ((j_X2_some rw (nI n) v203 v204 (lN v).toInt32).bind fun (v207, v208, v209) => (if v209 = (0 : Int32) then (jL_X2_readChain_2 rw (nI n) (z2 + 1) (((1 : Int64) <<< ((lN v).toInt32.toInt64 &&& 63)) + v207) v208 v209) else (jL_X2_readChain_2 rw (nI n) (z2 + 1) (0 : Int64) v208 v209))) else (jL_X2_readChain_2 rw (nI n) (z2 + 1) (lN v) v203 (1 : Int32))) else (some (lN v, v203, v204))) := by
    show (if nI 0 = (0 : Int32) then _ else _) = _
    rw [if_pos (show nI 0 = (0 : Int32) from rfl)]
  by_cases c1 : c < n
  · rw [q_next hm hn c1, Option.bind_some] at eM
    by_cases b : f c = 0
    · rw [if_pos (by rw [b]; rfl)] at eC
      have eM : jL_X2_readChain_2 rw (nI n) (z2 + 2) (lN v) (nI c) (nI 0) = some (lN v, nI (c + 1), nI 0) := by
        rw [eM]
        show (if nI (f c) = (1 : Int32) then _ else some (lN v, nI (c + 1), nI 0)) = _
        rw [if_neg (by rw [b]; decide)]
      unfold q_nn at eC
      by_cases d : v ≤ 4611686018427387904
      · rw [if_pos d] at eC
        exact Or.inl (q_Pok eC eM ⟨v1, d⟩ (by omega) (by omega))
      · rw [if_neg d] at eC
        exact Or.inl (q_Pno ⟨_, _, eC, Or.inl rfl, by omega⟩ (Or.inr ⟨v, _, _, by omega, hv, eM⟩))
    · have b1 : f c = 1 := by omega
      rw [if_neg (by rw [b1]; decide), lN_i, q_l63] at eC
      have eM : jL_X2_readChain_2 rw (nI n) (z2 + 2) (lN v) (nI c) (nI 0) = (if lN v ≤ (62 : Int64) then ((j_X2_some rw (nI n) (nI (c + 1)) (nI 0) (lN v).toInt32).bind fun (v207, v208, v209) => (if v209 = (0 : Int32) then (jL_X2_readChain_2 rw (nI n) (z2 + 1) (((1 : Int64) <<< ((lN v).toInt32.toInt64 &&& 63)) + v207) v208 v209) else (jL_X2_readChain_2 rw (nI n) (z2 + 1) (0 : Int64) v208 v209))) else (jL_X2_readChain_2 rw (nI n) (z2 + 1) (lN v) (nI (c + 1)) (1 : Int32))) := by
        rw [eM]
        show (if nI (f c) = (1 : Int32) then _ else _) = _
        rw [if_pos (by rw [b1]; rfl)]
      rw [lN_i, q_l62] at eM
      by_cases d : v ≤ 62
      · rw [if_pos ((q_llt hv (by omega)).mpr (by omega)), q_l1, q_readBits h (by omega) (by omega), Option.bind_some] at eC
        have eC : jL_X1_readOmega_4 w (nI n) (z1 + 2) (lN v) (nI g) (nI c) = jL_X1_readOmega_4 w (nI n) (z1 + 1) (lN (1 * 2 ^ v + q_val f (c + 1) v)) (nI g + nI 1) (nI (c + 1 + v)) := eC
        rw [nI_add, Nat.one_mul] at eC
        rw [if_pos ((q_lle hv (by omega)).mpr d)] at eM
        have hval := q_val_lt hf (c + 1) v
        have hp : 2 ^ v ≤ 2 ^ 62 := Nat.pow_le_pow_right (by decide) (by omega)
        have hs := q_someM (b := v) (c := c + 1) hm hf hn (by omega) (by omega)
        by_cases d2 : c + 1 + v ≤ n
        · rw [hs.1 d2, Option.bind_some] at eM
          have eM : jL_X2_readChain_2 rw (nI n) (z2 + 2) (lN v) (nI c) (nI 0) = (if nI 0 = (0 : Int32) then (jL_X2_readChain_2 rw (nI n) (z2 + 1) ((lN 1 <<< ((nI v).toInt64 &&& 63)) + lN (q_val f (c + 1) v)) (nI (c + 1 + v)) (nI 0)) else (jL_X2_readChain_2 rw (nI n) (z2 + 1) (0 : Int64) (nI (c + 1 + v)) (nI 0))) := eM
          rw [if_pos (show nI 0 = (0 : Int32) from rfl), q_lshl 1 (by omega), Nat.one_mul, lN_add] at eM
          exact Or.inr ⟨2 ^ v + q_val f (c + 1) v, c + 1 + v, d, by omega, by omega, by omega, d2, eC, eM⟩
        · obtain ⟨x, y, e9⟩ := hs.2 (by omega)
          rw [e9, Option.bind_some] at eM
          have eM : jL_X2_readChain_2 rw (nI n) (z2 + 2) (lN v) (nI c) (nI 0) = jL_X2_readChain_2 rw (nI n) (z2 + 1) (0 : Int64) y (nI 1) := eM
          rw [q_chOut] at eM
          obtain ⟨r, c', e10, h10, h11⟩ := q_omOut h (v := 2 ^ v + q_val f (c + 1) v) (c := c + 1 + v) (g := g + 1) (z := z1) (by omega) (by omega) (by omega) (by omega)
          exact Or.inl (q_Pno ⟨r, c', by rw [eC, e10], h10, h11⟩ (Or.inl ⟨_, _, eM⟩))
      · rw [if_neg (fun h9 => by have := (q_llt hv (by omega)).mp h9; omega)] at eC
        rw [if_neg (fun h9 => d ((q_lle hv (by omega)).mp h9))] at eM
        have eM : jL_X2_readChain_2 rw (nI n) (z2 + 2) (lN v) (nI c) (nI 0) = jL_X2_readChain_2 rw (nI n) (z2 + 1) (lN v) (nI (c + 1)) (nI 1) := eM
        rw [q_chOut] at eM
        exact Or.inl (q_Pno ⟨_, _, eC, Or.inl rfl, by omega⟩ (Or.inl ⟨_, _, eM⟩))
  · rw [q_nextNo hn (by omega) (by omega), Option.bind_some] at eM
    have eM : jL_X2_readChain_2 rw (nI n) (z2 + 2) (lN v) (nI c) (nI 0) = some (lN v, nI c, nI 1) := eM
    rw [if_pos (by rw [h.2.1 c (by omega)]; rfl)] at eC
    exact Or.inl (q_Pno ⟨_, _, eC, Or.inr (by omega), by omega⟩ (Or.inl ⟨_, _, eM⟩))
theorem q_k3 {w : Nat → Int64} {rw : Nat → Int32} {fb sm : Nat → Int64} {f : Nat → Nat} {n a : Nat} {p fr no : Int32} (h : q_row w f n) (hm : q_rm rw f n) (ha : a ≤ n) : q_rr n a (j_X1_readCodeword w (nI n) (nI a) fb (nI 3) p) (j_X2_reads rw (nI n) (nI a) sm fr no (nI 3) p) := by
  have eC : j_X1_readCodeword w (nI n) (nI a) fb (nI 3) p = (jL_X1_readOmega_4 w (nI n) (999994 + 6) (lN 1) (nI 0) (nI a)).bind fun (v9, v10) => some (v9, v10) := by
    unfold j_X1_readCodeword
    rw [if_neg (by decide), if_neg (by decide), if_neg (by decide), if_pos (by decide)]
    unfold j_X1_readOmega
    rw [q_l1, q_i0, show jF = 999994 + 6 from rfl]
  have eM : j_X2_reads rw (nI n) (nI a) sm fr no (nI 3) p = (jL_X2_readChain_2 rw (nI n) (999994 + 6) (lN 1) (nI a) (nI 0)).bind fun (v19, v20, v21) => jS_X2_reads_196 rw (nI n) sm v19 (nI a) v20 v21 := by
    unfold j_X2_reads
    rw [if_neg (by decide), if_neg (by decide), if_neg (by decide), if_pos (by decide)]
    unfold j_X2_readChain
    rw [q_l1, q_i0, show jF = 999994 + 6 from rfl]
  rw [eC, eM]
  generalize 999994 = z
  have key : q_P n a rw sm (jL_X1_readOmega_4 w (nI n) (z + 6) (lN 1) (nI 0) (nI a)) (jL_X2_readChain_2 rw (nI n) (z + 6) (lN 1) (nI a) (nI 0)) := by
    rcases q_omStep (sm := sm) h hm (v := 1) (c := a) (g := 0) (z1 := z + 4) (z2 := z + 4) (by omega) (by omega) (Nat.le_refl a) ha (by omega) with hd | ⟨v1, c1, a1, b1, d1, f1, g1, e1, e2⟩
    · exact hd
    rw [e1, e2]
    have b1 : 2 ≤ v1 := b1
    rcases q_omStep (sm := sm) h hm (v := v1) (c := c1) (g := 1) (z1 := z + 3) (z2 := z + 3) (by omega) d1 f1 g1 (by omega) with hd | ⟨v2, c2, a2, b2, d2, f2, g2, e3, e4⟩
    · exact hd
    rw [e3, e4]
    have b2 : 4 ≤ v2 := Nat.le_trans (show 2 ^ 2 ≤ 2 ^ v1 from Nat.pow_le_pow_right (by decide) b1) b2
    rcases q_omStep (sm := sm) h hm (v := v2) (c := c2) (g := 2) (z1 := z + 2) (z2 := z + 2) (by omega) d2 f2 g2 (by omega) with hd | ⟨v3, c3, a3, b3, d3, f3, g3, e5, e6⟩
    · exact hd
    rw [e5, e6]
    have b3 : 16 ≤ v3 := Nat.le_trans (show 2 ^ 4 ≤ 2 ^ v2 from Nat.pow_le_pow_right (by decide) b2) b3
    rcases q_omStep (sm := sm) h hm (v := v3) (c := c3) (g := 3) (z1 := z + 1) (z2 := z + 1) (by omega) d3 f3 g3 (by omega) with hd | ⟨v4, c4, a4, b4, d4, f4, g4, e7, e8⟩
    · exact hd
    rw [e7, e8]
    have b4 : 65536 ≤ v4 := Nat.le_trans (show 2 ^ 16 ≤ 2 ^ v3 from Nat.pow_le_pow_right (by decide) b3) b4
    rcases q_omStep (sm := sm) h hm (v := v4) (c := c4) (g := 4) (z1 := z) (z2 := z) (by omega) d4 f4 g4 (by omega) with hd | ⟨v5, c5, a5, _⟩
    · exact hd
    · omega
  exact key
