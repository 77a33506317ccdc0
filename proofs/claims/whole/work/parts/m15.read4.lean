/-! Reading: kind 4. -/
theorem q_fcE {w : Nat → Int64} {fb : Nat → Int64} {f : Nat → Nat} {n : Nat} (h : q_row w f n) {z i c last : Nat} {S : Int64} (hi : i < 89) (hc : c < 900000) : jL_X1_readFibonacci_7 w (nI n) fb (z + 1) S (nI last) (nI i) (nI c) = (if nI (f c) = (1 : Int32) then (if nI last = (1 : Int32) then ((j_X1_numberOrNone S).bind fun v711 => (some (v711, nI (c + 1)))) else (jL_X1_readFibonacci_7 w (nI n) fb z (S + ((nI (f c)).toInt64 * (fb i))) (nI (f c)) (nI i + nI 1) (nI (c + 1)))) else (jL_X1_readFibonacci_7 w (nI n) fb z (S + ((nI (f c)).toInt64 * (fb i))) (nI (f c)) (nI i + nI 1) (nI (c + 1)))) := by
  show (if nI 89 ≤ nI i then _ else ((j_X0_readBit w (nI n) (nI c)).bind fun (v707, v708) => (if v707 = (1 : Int32) then (if nI last = (1 : Int32) then ((j_X1_numberOrNone S).bind fun v711 => (some (v711, v708))) else (jix (nI i) 89 (jL_X1_readFibonacci_7 w (nI n) fb z (S + (v707.toInt64 * (fb (nI i).toNatClampNeg))) v707 (nI i + (1 : Int32)) v708))) else (jix (nI i) 89 (jL_X1_readFibonacci_7 w (nI n) fb z (S + (v707.toInt64 * (fb (nI i).toNatClampNeg))) v707 (nI i + (1 : Int32)) v708))))) = _
  rw [if_neg (fun h9 => by have := (q_le (by omega) (by omega)).mp h9; omega), q_readBit h (by omega), Option.bind_some]
  show (if nI (f c) = (1 : Int32) then (if nI last = (1 : Int32) then ((j_X1_numberOrNone S).bind fun v711 => (some (v711, nI (c + 1)))) else (jix (nI i) 89 (jL_X1_readFibonacci_7 w (nI n) fb z (S + ((nI (f c)).toInt64 * (fb (nI i).toNatClampNeg))) (nI (f c)) (nI i + nI 1) (nI (c + 1))))) else (jix (nI i) 89 (jL_X1_readFibonacci_7 w (nI n) fb z (S + ((nI (f c)).toInt64 * (fb (nI i).toNatClampNeg))) (nI (f c)) (nI i + nI 1) (nI (c + 1))))) = _
  rw [q_jix (by omega) (by omega), q_clamp (by omega)]
theorem q_fc1 {w : Nat → Int64} {fb : Nat → Int64} {f : Nat → Nat} {n : Nat} (h : q_row w f n) {z i c S : Nat} (hi : i < 89) (hc : c < 900000) (hS : S < 9223372036854775808) (hb : f c = 1) : jL_X1_readFibonacci_7 w (nI n) fb (z + 1) (lN S) (nI 1) (nI i) (nI c) = some (q_nn S, nI (c + 1)) := by
  rw [q_fcE h hi hc, hb, if_pos (show nI 1 = (1 : Int32) from rfl), if_pos (show nI 1 = (1 : Int32) from rfl), q_nnE hS, Option.bind_some]
theorem q_fc2 {w : Nat → Int64} {fb : Nat → Int64} (hfb : ∀ i, i < 89 → fb i = lN (q_F i)) {f : Nat → Nat} {n : Nat} (h : q_row w f n) {z i c S : Nat} (hi : i < 89) (hc : c < 900000) (hb : f c = 1) : jL_X1_readFibonacci_7 w (nI n) fb (z + 1) (lN S) (nI 0) (nI i) (nI c) = jL_X1_readFibonacci_7 w (nI n) fb z (lN (S + q_F i)) (nI 1) (nI (i + 1)) (nI (c + 1)) := by
  rw [q_fcE h hi hc, hb, if_pos (show nI 1 = (1 : Int32) from rfl), if_neg (show ¬ nI 0 = (1 : Int32) by decide), hfb i hi, q_i2l (by omega), lN_mul, lN_add, nI_add, Nat.one_mul]
theorem q_fc3 {w : Nat → Int64} {fb : Nat → Int64} (hfb : ∀ i, i < 89 → fb i = lN (q_F i)) {f : Nat → Nat} {n : Nat} (h : q_row w f n) {z i c S last : Nat} (hi : i < 89) (hc : c < 900000) (hb : f c = 0) : jL_X1_readFibonacci_7 w (nI n) fb (z + 1) (lN S) (nI last) (nI i) (nI c) = jL_X1_readFibonacci_7 w (nI n) fb z (lN S) (nI 0) (nI (i + 1)) (nI (c + 1)) := by
  rw [q_fcE h hi hc, hb, if_neg (show ¬ nI 0 = (1 : Int32) by decide), hfb i hi, q_i2l (by omega), lN_mul, lN_add, nI_add, Nat.zero_mul, Nat.add_zero]
theorem q_fc4 {w : Nat → Int64} {fb : Nat → Int64} {f : Nat → Nat} {n : Nat} (h : q_row w f n) {z c S : Nat} (hc : c < 900000) (hS : S < 9223372036854775808) : jL_X1_readFibonacci_7 w (nI n) fb (z + 1) (lN S) (nI 1) (nI 89) (nI c) = some (if f c = 1 then q_nn S else -1, nI (c + 1)) := by
  have hfc := h.2.2.2 c
  show (if nI 89 ≤ nI 89 then (if nI 1 = (1 : Int32) then ((j_X0_readBit w (nI n) (nI c)).bind fun (v703, v704) => (if v703 = (1 : Int32) then ((j_X1_numberOrNone (lN S)).bind fun v706 => (some (v706, v704))) else (some ((-1 : Int64), v704)))) else (some ((-1 : Int64), nI c))) else _) = _
  rw [if_pos (by decide), if_pos (show nI 1 = (1 : Int32) from rfl), q_readBit h (by omega), Option.bind_some]
  show (if nI (f c) = (1 : Int32) then ((j_X1_numberOrNone (lN S)).bind fun v706 => (some (v706, nI (c + 1)))) else (some ((-1 : Int64), nI (c + 1)))) = _
  by_cases b : f c = 1
  · rw [if_pos ((q_nI_le1 hfc).mpr b), if_pos b, q_nnE hS, Option.bind_some]
  · rw [if_neg (fun h9 => b ((q_nI_le1 hfc).mp h9)), if_neg b]
theorem q_fc5 {w : Nat → Int64} {fb : Nat → Int64} {n z : Nat} {S : Int64} {cu : Int32} : jL_X1_readFibonacci_7 w (nI n) fb (z + 1) S (nI 0) (nI 89) cu = some ((-1 : Int64), cu) := by
  show (if nI 89 ≤ nI 89 then (if nI 0 = (1 : Int32) then _ else (some ((-1 : Int64), cu))) else _) = _
  rw [if_pos (by decide), if_neg (by decide)]
/-- no two neighbours among the i first: their sum -/
def q_inv (S last i : Nat) : Prop := last ≤ 1 ∧ S < q_F i ∧ (last = 0 → S + q_F i < q_F (i + 1)) ∧ (last = 1 → 1 ≤ S)
theorem q_inv0 {S last i : Nat} (h : q_inv S last i) : q_inv S 0 (i + 1) := by
  have h1 := q_F_lt i
  have h2 : q_F (i + 1 + 1) = q_F (i + 1) + q_F i := q_F_rec i
  exact ⟨by omega, by have := h.2.1; omega, fun _ => by have := h.2.1; omega, fun h9 => by omega⟩
theorem q_inv1 {S i : Nat} (h : q_inv S 0 i) : q_inv (S + q_F i) 1 (i + 1) := by
  have h1 := (q_F_pos i).1
  exact ⟨by omega, h.2.2.1 rfl, fun h9 => by omega, fun _ => by omega⟩
theorem q_fibAny {w : Nat → Int64} {fb : Nat → Int64} (hfb : ∀ i, i < 89 → fb i = lN (q_F i)) {f : Nat → Nat} {n : Nat} (h : q_row w f n) : ∀ (m z S last i c : Nat), i + m = 89 → m < z → q_inv S last i → c + m < 800000 → ∃ r c', jL_X1_readFibonacci_7 w (nI n) fb z (lN S) (nI last) (nI i) (nI c) = some (r, nI c') ∧ c ≤ c' ∧ c' < 900000 ∧ (4611686018427387904 < S → r = -1) := by
  intro m
  induction m with
  | zero =>
    intro z S last i c hi hz hI hc
    have hS := hI.2.1
    have hF := q_F_small (i := i) (by omega)
    cases z with
    | zero => omega
    | succ z =>
      have e : i = 89 := by omega
      subst e
      rcases (show last = 0 ∨ last = 1 by have := hI.1; omega) with rfl | rfl
      · rw [q_fc5]
        exact ⟨_, c, rfl, by omega, by omega, fun _ => rfl⟩
      · rw [q_fc4 h (by omega) (by omega)]
        refine ⟨_, c + 1, rfl, by omega, by omega, fun h9 => ?_⟩
        split
        · unfold q_nn
          rw [if_neg (by omega)]
        · rfl
  | succ m ih =>
    intro z S last i c hi hz hI hc
    have hS := hI.2.1
    have hF := q_F_small (i := i) (by omega)
    have hfc := h.2.2.2 c
    cases z with
    | zero => omega
    | succ z =>
      by_cases b : f c = 1
      · rcases (show last = 0 ∨ last = 1 by have := hI.1; omega) with rfl | rfl
        · rw [q_fc2 hfb h (by omega) (by omega) b]
          obtain ⟨r, c', e, h1, h2, h3⟩ := ih z (S + q_F i) 1 (i + 1) (c + 1) (by omega) (by omega) (q_inv1 hI) (by omega)
          exact ⟨r, c', e, by omega, h2, fun h9 => h3 (by omega)⟩
        · rw [q_fc1 h (by omega) (by omega) (by omega) b]
          refine ⟨_, c + 1, rfl, by omega, by omega, fun h9 => ?_⟩
          unfold q_nn
          rw [if_neg (by omega)]
      · rw [q_fc3 hfb h (by omega) (by omega) (by omega)]
        obtain ⟨r, c', e, h1, h2, h3⟩ := ih z S 0 (i + 1) (c + 1) (by omega) (by omega) (q_inv0 hI) (by omega)
        exact ⟨r, c', e, by omega, h2, h3⟩
/-! the reference -/
theorem q_rs0 {rw : Nat → Int32} {mn : Int32} {sm : Nat → Int64} {z : Nat} {S : Int64} {x3 x4 fr no : Int32} : jL_X2_readSums_10 rw mn sm (z + 1) S x3 x4 (nI 0) fr no = some (S, fr, no) := by
  show (if nI 0 = (0 : Int32) then some (S, fr, no) else _) = _
  rw [if_pos (show nI 0 = (0 : Int32) from rfl)]
theorem q_rsN {rw : Nat → Int32} {mn : Int32} {sm : Nat → Int64} {z : Nat} {S : Int64} {x3 x4 fr : Int32} : jL_X2_readSums_10 rw mn sm (z + 1) S x3 x4 (nI 1) fr (nI 1) = some (S, fr, nI 1) := by
  show (if nI 1 = (0 : Int32) then _ else (if nI 1 = (0 : Int32) then _ else some (S, fr, nI 1))) = _
  rw [if_neg (by decide), if_neg (by decide)]
theorem q_rs11 {rw : Nat → Int32} {n k z : Nat} {sm : Nat → Int64} {S : Int64} {fr fr' no' : Int32} (hx : j_X2_next rw (nI n) fr (nI 0) = some (nI 1, fr', no')) : jL_X2_readSums_10 rw (nI n) sm (z + 1) S (nI 1) (nI k) (nI 1) fr (nI 0) = jL_X2_readSums_10 rw (nI n) sm z S (nI 1) (nI k + nI 1) (nI 0) fr' no' := by
  show (if nI 1 = (0 : Int32) then _ else (if nI 0 = (0 : Int32) then ((j_X2_next rw (nI n) fr (nI 0)).bind fun (v1003, v1004, v1005) => (if v1003 = (1 : Int32) then (if nI 1 = (1 : Int32) then (jS_X2_readSums_99 rw (nI n) sm (jL_X2_readSums_10 rw (nI n) sm z) S (nI k + (1 : Int32)) (0 : Int32) v1003 v1004 v1005) else _) else _)) else _)) = _
  rw [if_neg (by decide), if_pos (show nI 0 = (0 : Int32) from rfl), hx, Option.bind_some]
  show (if nI 1 = (1 : Int32) then (if nI 1 = (1 : Int32) then (jS_X2_readSums_99 rw (nI n) sm (jL_X2_readSums_10 rw (nI n) sm z) S (nI k + (1 : Int32)) (0 : Int32) (nI 1) fr' no') else _) else _) = _
  rw [if_pos (show nI 1 = (1 : Int32) from rfl), if_pos (show nI 1 = (1 : Int32) from rfl)]
  rfl
theorem q_rsE {rw : Nat → Int32} {n k z B last : Nat} {sm : Nat → Int64} {S : Int64} {fr fr' no' : Int32} (hx : j_X2_next rw (nI n) fr (nI 0) = some (nI B, fr', no')) (hB : B ≤ 1) (hl : B = 1 → last = 0) (hl1 : last ≤ 1) : jL_X2_readSums_10 rw (nI n) sm (z + 1) S (nI last) (nI k) (nI 1) fr (nI 0) = (if (nI k + (1 : Int32)) ≤ (90 : Int32) then (if nI B = (1 : Int32) then (if no' = (0 : Int32) then (jix (nI k + (1 : Int32)) 92 (if (S + (sm (nI k + (1 : Int32)).toNatClampNeg)) ≤ (4611686018427387904 : Int64) then (jL_X2_readSums_10 rw (nI n) sm z (S + (sm (nI k + (1 : Int32)).toNatClampNeg)) (nI B) (nI k + (1 : Int32)) (nI 1) fr' no') else (jL_X2_readSums_10 rw (nI n) sm z (S + (sm (nI k + (1 : Int32)).toNatClampNeg)) (nI B) (nI k + (1 : Int32)) (nI 1) fr' (nI 1)))) else (jL_X2_readSums_10 rw (nI n) sm z S (nI B) (nI k + (1 : Int32)) (nI 1) fr' no')) else (jL_X2_readSums_10 rw (nI n) sm z S (nI B) (nI k + (1 : Int32)) (nI 1) fr' no')) else (jL_X2_readSums_10 rw (nI n) sm z S (nI B) (nI k + (1 : Int32)) (nI 1) fr' (nI 1))) := by
  show (if nI 1 = (0 : Int32) then _ else (if nI 0 = (0 : Int32) then ((j_X2_next rw (nI n) fr (nI 0)).bind _) else _)) = _
  rw [if_neg (show ¬ nI 1 = (0 : Int32) by decide), if_pos (show nI 0 = (0 : Int32) from rfl), hx, Option.bind_some]
  rcases (show B = 0 ∨ B = 1 by omega) with rfl | rfl
  · show (if nI 0 = (1 : Int32) then _ else _) = _
    rw [if_neg (show ¬ nI 0 = (1 : Int32) by decide)]
    rfl
  · have hl := hl rfl
    subst hl
    show (if nI 1 = (1 : Int32) then (if nI 0 = (1 : Int32) then _ else _) else _) = _
    rw [if_pos (show nI 1 = (1 : Int32) from rfl), if_neg (show ¬ nI 0 = (1 : Int32) by decide)]
    rfl
theorem q_rs0b {rw : Nat → Int32} {n k z last : Nat} {sm : Nat → Int64} {S : Int64} {fr fr' no' : Int32} (hx : j_X2_next rw (nI n) fr (nI 0) = some (nI 0, fr', no')) (hl1 : last ≤ 1) (hk : k + 1 ≤ 90) : jL_X2_readSums_10 rw (nI n) sm (z + 1) S (nI last) (nI k) (nI 1) fr (nI 0) = jL_X2_readSums_10 rw (nI n) sm z S (nI 0) (nI (k + 1)) (nI 1) fr' no' := by
  rw [q_rsE hx (by omega) (fun h9 => by omega) hl1, if_neg (show ¬ nI 0 = (1 : Int32) by decide), q_i1, nI_add, q_i90, if_pos ((q_le (by omega) (by omega)).mpr hk)]
theorem q_rs10 {rw : Nat → Int32} {n k z S : Nat} {sm : Nat → Int64} (hsm : ∀ i, 1 ≤ i → i < 92 → sm i = lN (q_F (i - 1))) {fr fr' : Int32} (hx : j_X2_next rw (nI n) fr (nI 0) = some (nI 1, fr', nI 0)) (hk : k + 1 ≤ 90) (hS : S + q_F k < 9223372036854775808) : jL_X2_readSums_10 rw (nI n) sm (z + 1) (lN S) (nI 0) (nI k) (nI 1) fr (nI 0) = if S + q_F k ≤ 4611686018427387904 then jL_X2_readSums_10 rw (nI n) sm z (lN (S + q_F k)) (nI 1) (nI (k + 1)) (nI 1) fr' (nI 0) else jL_X2_readSums_10 rw (nI n) sm z (lN (S + q_F k)) (nI 1) (nI (k + 1)) (nI 1) fr' (nI 1) := by
  rw [q_rsE hx (by omega) (fun _ => rfl) (by omega), if_pos (show nI 1 = (1 : Int32) from rfl), if_pos (show nI 0 = (0 : Int32) from rfl), q_i1, nI_add, q_i90, if_pos ((q_le (by omega) (by omega)).mpr hk), q_jix (by omega) (by omega), q_clamp (by omega), hsm (k + 1) (by omega) (by omega), show k + 1 - 1 = k from rfl, lN_add, q_lM]
  by_cases d : S + q_F k ≤ 4611686018427387904
  · rw [if_pos ((q_lle hS (by omega)).mpr d), if_pos d]
  · rw [if_neg (fun h9 => d ((q_lle hS (by omega)).mp h9)), if_neg d]
theorem q_rsEnd {rw : Nat → Int32} {n B z : Nat} {sm : Nat → Int64} {S : Int64} {fr fr' no' : Int32} (hx : j_X2_next rw (nI n) fr (nI 0) = some (nI B, fr', no')) (hB : B ≤ 1) : jL_X2_readSums_10 rw (nI n) sm (z + 2) S (nI 0) (nI 90) (nI 1) fr (nI 0) = some (S, fr', nI 1) := by
  rw [q_rsE hx hB (fun _ => rfl) (by omega), if_neg (show ¬ (nI 90 + (1 : Int32)) ≤ (90 : Int32) by decide), q_rsN]
theorem q_rs90 {rw : Nat → Int32} {f : Nat → Nat} {n c z : Nat} {sm : Nat → Int64} {S : Int64} (hm : q_rm rw f n) (hf : ∀ i, f i ≤ 1) (hn : n ≤ 4096) (hc : c < 900000) : ∃ y, jL_X2_readSums_10 rw (nI n) sm (z + 2) S (nI 0) (nI 90) (nI 1) (nI c) (nI 0) = some (S, y, nI 1) := by
  by_cases c1 : c < n
  · exact ⟨_, q_rsEnd (q_next hm hn c1) (hf c)⟩
  · exact ⟨_, q_rsEnd (q_nextNo hn (by omega) (by omega)) (by omega)⟩
theorem q_fibJ {w : Nat → Int64} {rw : Nat → Int32} {fb sm : Nat → Int64} (hfb : ∀ i, i < 89 → fb i = lN (q_F i)) (hsm : ∀ i, 1 ≤ i → i < 92 → sm i = lN (q_F (i - 1))) {f : Nat → Nat} {n a : Nat} (h : q_row w f n) (hm : q_rm rw f n) : ∀ (m z1 z2 S last i c : Nat), i + m = 89 → m < z1 → m + 3 < z2 → q_inv S last i → S ≤ 4611686018427387904 → a ≤ c → c ≤ n → q_P n a rw sm (jL_X1_readFibonacci_7 w (nI n) fb z1 (lN S) (nI last) (nI i) (nI c)) (jL_X2_readSums_10 rw (nI n) sm z2 (lN S) (nI last) (nI i) (nI 1) (nI c) (nI 0)) := by
  have hf := h.2.2.2
  have hn := h.2.2.1
  intro m
  induction m with
  | zero =>
    intro z1 z2 S last i c hi hz1 hz2 hI hS ha hc
    have hF := q_F_small (i := 89) (by omega)
    have h89 := q_F89
    obtain ⟨z1, rfl⟩ : ∃ z, z1 = z + 1 := ⟨z1 - 1, by omega⟩
    obtain ⟨z2, rfl⟩ : ∃ z, z2 = z + 3 := ⟨z2 - 3, by omega⟩
    have e : i = 89 := by omega
    subst e
    have hIS := hI.2.1
    have hfc := hf c
    by_cases c1 : c < n
    · have hx := q_next (no := nI 0) hm hn c1
      rcases (show last = 0 ∨ last = 1 by have := hI.1; omega) with rfl | rfl
      · refine q_Pno ⟨_, c, q_fc5, Or.inl rfl, by omega⟩ (Or.inl ?_)
        rcases (show f c = 0 ∨ f c = 1 by omega) with b | b
        · rw [b] at hx
          rw [q_rs0b hx (by omega) (by omega)]
          obtain ⟨y, e⟩ := q_rs90 (z := z2) (sm := sm) (S := lN S) (c := c + 1) hm hf hn (by omega)
          exact ⟨_, _, e⟩
        · rw [b] at hx
          rw [q_rs10 hsm hx (by omega) (by have h5 : S + q_F 89 < q_F 90 := hI.2.2.1 rfl; have := q_F90; omega), if_neg (by omega), q_rsN]
          exact ⟨_, _, rfl⟩
      · rcases (show f c = 0 ∨ f c = 1 by omega) with b | b
        · rw [b] at hx
          refine q_Pno ⟨_, c + 1, q_fc4 h (by omega) (by omega), Or.inl (by rw [if_neg (by omega)]), by omega⟩ (Or.inl ?_)
          rw [q_rs0b hx (by omega) (by omega)]
          obtain ⟨y, e⟩ := q_rs90 (z := z2) (sm := sm) (S := lN S) (c := c + 1) hm hf hn (by omega)
          exact ⟨_, _, e⟩
        · rw [b] at hx
          refine q_Pok (v := S) (e := c + 1) ?_ ?_ ⟨hI.2.2.2 rfl, hS⟩ (by omega) (by omega)
          · rw [q_fc4 h (by omega) (by omega), if_pos b]
            unfold q_nn
            rw [if_pos hS]
          · rw [q_rs11 hx, q_rs0]
    · have hx := q_nextNo (rw := rw) (no := nI 0) (c := c) hn (by omega) (by omega)
      refine q_Pno ?_ (Or.inl ⟨_, _, by rw [q_rs0b hx hI.1 (by omega), q_rsN]⟩)
      rcases (show last = 0 ∨ last = 1 by have := hI.1; omega) with rfl | rfl
      · exact ⟨_, c, q_fc5, Or.inl rfl, by omega⟩
      · exact ⟨_, c + 1, q_fc4 h (by omega) (by omega), Or.inl (by rw [if_neg (by rw [h.2.1 c (by omega)]; omega)]), by omega⟩
  | succ m ih =>
    intro z1 z2 S last i c hi hz1 hz2 hI hS ha hc
    have hF := q_F_small (i := i + 1) (by omega)
    have hlt := q_F_lt i
    obtain ⟨z1, rfl⟩ : ∃ z, z1 = z + 1 := ⟨z1 - 1, by omega⟩
    obtain ⟨z2, rfl⟩ : ∃ z, z2 = z + 3 := ⟨z2 - 3, by omega⟩
    have hIS := hI.2.1
    have hfc := hf c
    by_cases c1 : c < n
    · have hx := q_next (no := nI 0) hm hn c1
      rcases (show f c = 0 ∨ f c = 1 by omega) with b | b
      · rw [b] at hx
        rw [q_fc3 hfb h (by omega) (by omega) b, q_rs0b hx hI.1 (by omega)]
        exact ih z1 (z2 + 2) S 0 (i + 1) (c + 1) (by omega) (by omega) (by omega) (q_inv0 hI) hS (by omega) (by omega)
      · rw [b] at hx
        rcases (show last = 0 ∨ last = 1 by have := hI.1; omega) with rfl | rfl
        · have hS2 := hI.2.2.1 rfl
          rw [q_fc2 hfb h (by omega) (by omega) b, q_rs10 hsm hx (by omega) (by omega)]
          by_cases d : S + q_F i ≤ 4611686018427387904
          · rw [if_pos d]
            exact ih z1 (z2 + 2) (S + q_F i) 1 (i + 1) (c + 1) (by omega) (by omega) (by omega) (q_inv1 hI) d (by omega) (by omega)
          · rw [if_neg d, q_rsN]
            obtain ⟨r, c', e, h1, h2, h3⟩ := q_fibAny hfb h m z1 (S + q_F i) 1 (i + 1) (c + 1) (by omega) (by omega) (q_inv1 hI) (by omega)
            exact q_Pno ⟨r, c', e, Or.inl (h3 (by omega)), by omega⟩ (Or.inl ⟨_, _, rfl⟩)
        · refine q_Pok (v := S) (e := c + 1) ?_ ?_ ⟨hI.2.2.2 rfl, hS⟩ (by omega) (by omega)
          · rw [q_fc1 h (by omega) (by omega) (by omega) b]
            unfold q_nn
            rw [if_pos hS]
          · rw [q_rs11 hx, q_rs0]
    · have hx := q_nextNo (rw := rw) (no := nI 0) (c := c) hn (by omega) (by omega)
      refine q_Pno ?_ (Or.inl ⟨_, _, by rw [q_rs0b hx hI.1 (by omega), q_rsN]⟩)
      rw [q_fc3 hfb h (by omega) (by omega) (h.2.1 c (by omega))]
      obtain ⟨r, c', e, h1, h2, h3⟩ := q_fibAny hfb h m z1 S 0 (i + 1) (c + 1) (by omega) (by omega) (q_inv0 hI) (by omega)
      exact ⟨r, c', e, Or.inr (by omega), by omega⟩
theorem q_k4 {w : Nat → Int64} {rw : Nat → Int32} {fb sm : Nat → Int64} (hfb : ∀ i, i < 89 → fb i = lN (q_F i)) (hsm : ∀ i, 1 ≤ i → i < 92 → sm i = lN (q_F (i - 1))) {f : Nat → Nat} {n a : Nat} {p fr no : Int32} (h : q_row w f n) (hm : q_rm rw f n) (ha : a ≤ n) : q_rr n a (j_X1_readCodeword w (nI n) (nI a) fb (nI 4) p) (j_X2_reads rw (nI n) (nI a) sm fr no (nI 4) p) := by
  have eC : j_X1_readCodeword w (nI n) (nI a) fb (nI 4) p = (jL_X1_readFibonacci_7 w (nI n) fb jF (lN 0) (nI 0) (nI 0) (nI a)).bind fun (v9, v10) => some (v9, v10) := by
    unfold j_X1_readCodeword
    rw [if_neg (by decide), if_neg (by decide), if_neg (by decide), if_neg (by decide), if_pos (by decide)]
    unfold j_X1_readFibonacci
    rw [q_l0, q_i0]
  have eM : j_X2_reads rw (nI n) (nI a) sm fr no (nI 4) p = (jL_X2_readSums_10 rw (nI n) sm jF (lN 0) (nI 0) (nI 0) (nI 1) (nI a) (nI 0)).bind fun (v19, v20, v21) => jS_X2_reads_196 rw (nI n) sm v19 (nI a) v20 v21 := by
    unfold j_X2_reads
    rw [if_neg (by decide), if_neg (by decide), if_neg (by decide), if_neg (by decide), if_pos (by decide)]
    unfold j_X2_readSums
    rw [q_l0, q_i0, q_i1]
  rw [eC, eM]
  exact q_fibJ hfb hsm h hm 89 jF jF 0 0 0 a (by omega) (by unfold jF; omega) (by unfold jF; omega) ⟨by omega, by decide, fun _ => by decide, fun h9 => by omega⟩ (by omega) (Nat.le_refl a) ha
