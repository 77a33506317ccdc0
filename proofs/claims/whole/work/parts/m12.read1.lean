/-! Reading a codeword: class and reference come to the same number and place, or both to none. Kinds 0, 1, 2, 6. -/
theorem q_run {rw : Nat → Int32} {f : Nat → Nat} {n a b : Nat} (h : q_rm rw f n) (hf : ∀ i, f i ≤ 1) (hn : n ≤ 4096) (hb : b ≤ 1) (ha : a ≤ n) : j_X2_run rw (nI n) (nI a) (nI 0) (nI b) = some (nI (q_rn f b (n - a) a), nI (a + q_rn f b (n - a) a), if a + q_rn f b (n - a) a < n then nI 0 else nI 1) := by
  unfold j_X2_run
  have := q_runL h hf hn hb (n - a) jF 0 a (by omega) (by omega) (by unfold jF; omega)
  rw [Nat.zero_add] at this
  rw [q_i0]
  exact this
theorem q_nn1 {v : Nat} (h : v ≤ 4611686018427387904) : j_X1_numberOrNone (lN v) = some (lN v) := by
  unfold j_X1_numberOrNone
  rw [q_lM, if_neg (fun h9 => by have := (q_llt (by omega) (by omega)).mp h9; omega)]
theorem q_nn2 {v : Nat} (h : 4611686018427387904 < v) (h2 : v < 9223372036854775808) : j_X1_numberOrNone (lN v) = some (-1 : Int64) := by
  unfold j_X1_numberOrNone
  rw [q_lM, if_pos ((q_llt (by omega) h2).mpr h)]
def q_nn (v : Nat) : Int64 := if v ≤ 4611686018427387904 then lN v else -1
theorem q_nnE {v : Nat} (h2 : v < 9223372036854775808) : j_X1_numberOrNone (lN v) = some (q_nn v) := by
  unfold q_nn
  split
  · exact q_nn1 (by assumption)
  · exact q_nn2 (by omega) h2
theorem q_gamHit {w : Nat → Int64} {f : Nat → Nat} {n : Nat} (h : q_row w f n) : ∀ (r z x c : Nat), r < z → x + r ≤ 62 → c + r < 900000 → (∀ i, i < r → f (c + i) = 0) → f (c + r) = 1 → jL_X1_readGamma_2 w (nI n) z (nI x) (nI c) = some (q_nn (2 ^ (x + r) + q_val f (c + r + 1) (x + r)), nI (c + r + 1 + (x + r))) := by
  intro r
  induction r with
  | zero =>
    intro z x c hz hx hc h0 h1
    cases z with
    | zero => omega
    | succ z =>
      have h1 : f c = 1 := h1
      show (if nI 63 ≤ nI x then some ((-1 : Int64), nI c) else (j_X0_readBit w (nI n) (nI c)).bind fun (v202, v203) => (if v202 = (1 : Int32) then ((j_X0_readBits w (nI n) v203 (1 : Int64) (nI x)).bind fun (v205, v206) => ((j_X1_numberOrNone v205).bind fun v207 => (some (v207, v206)))) else _)) = _
      rw [if_neg (fun h9 => by have := (q_le (by omega) (by omega)).mp h9; omega), q_readBit h (by omega), Option.bind_some]
      show (if nI (f c) = (1 : Int32) then ((j_X0_readBits w (nI n) (nI (c + 1)) (lN 1) (nI x)).bind fun (v205, v206) => ((j_X1_numberOrNone v205).bind fun v207 => (some (v207, v206)))) else _) = _
      rw [if_pos (by rw [h1]; rfl), q_readBits h (by omega) (by omega), Option.bind_some]
      show (j_X1_numberOrNone (lN (1 * 2 ^ x + q_val f (c + 1) x))).bind (fun v207 => some (v207, nI (c + 1 + x))) = _
      have hv := q_val_lt h.2.2.2 (c + 1) x
      have hp : 2 ^ x ≤ 2 ^ 62 := Nat.pow_le_pow_right (by decide) (by omega)
      rw [Nat.one_mul, q_nnE (by omega), Option.bind_some]
      rfl
  | succ r ih =>
    intro z x c hz hx hc h0 h1
    cases z with
    | zero => omega
    | succ z =>
      have h2 : f c = 0 := h0 0 (by omega)
      show (if nI 63 ≤ nI x then some ((-1 : Int64), nI c) else (j_X0_readBit w (nI n) (nI c)).bind fun (v202, v203) => (if v202 = (1 : Int32) then _ else (jL_X1_readGamma_2 w (nI n) z (nI x + nI 1) v203))) = _
      rw [if_neg (fun h9 => by have := (q_le (by omega) (by omega)).mp h9; omega), q_readBit h (by omega), Option.bind_some]
      show (if nI (f c) = (1 : Int32) then _ else (jL_X1_readGamma_2 w (nI n) z (nI x + nI 1) (nI (c + 1)))) = _
      rw [if_neg (by rw [h2]; decide), nI_add, ih z (x + 1) (c + 1) (by omega) (by omega) (by omega) (fun i hi => by rw [show c + 1 + i = c + (i + 1) by omega]; exact h0 (i + 1) (by omega)) (by rw [show c + 1 + r = c + (r + 1) by omega]; exact h1)]
      rw [show x + 1 + r = x + (r + 1) by omega, show c + 1 + r + 1 = c + (r + 1) + 1 by omega]
theorem q_gamMiss {w : Nat → Int64} {f : Nat → Nat} {n : Nat} (h : q_row w f n) : ∀ (m z x c : Nat), m < z → x + m = 63 → c + m < 900000 → (∀ i, i < m → f (c + i) = 0) → jL_X1_readGamma_2 w (nI n) z (nI x) (nI c) = some ((-1 : Int64), nI (c + m)) := by
  intro m
  induction m with
  | zero =>
    intro z x c hz hx hc h0
    cases z with
    | zero => omega
    | succ z =>
      show (if nI 63 ≤ nI x then some ((-1 : Int64), nI c) else _) = _
      rw [if_pos ((q_le (by omega) (by omega)).mpr (by omega))]
      rfl
  | succ m ih =>
    intro z x c hz hx hc h0
    cases z with
    | zero => omega
    | succ z =>
      have h2 : f c = 0 := h0 0 (by omega)
      show (if nI 63 ≤ nI x then some ((-1 : Int64), nI c) else (j_X0_readBit w (nI n) (nI c)).bind fun (v202, v203) => (if v202 = (1 : Int32) then _ else (jL_X1_readGamma_2 w (nI n) z (nI x + nI 1) v203))) = _
      rw [if_neg (fun h9 => by have := (q_le (by omega) (by omega)).mp h9; omega), q_readBit h (by omega), Option.bind_some]
      show (if nI (f c) = (1 : Int32) then _ else (jL_X1_readGamma_2 w (nI n) z (nI x + nI 1) (nI (c + 1)))) = _
      rw [if_neg (by rw [h2]; decide), nI_add, ih z (x + 1) (c + 1) (by omega) (by omega) (by omega) (fun i hi => by rw [show c + 1 + i = c + (i + 1) by omega]; exact h0 (i + 1) (by omega))]
      rw [show c + 1 + m = c + (m + 1) by omega]
theorem q_dbl {rw : Nat → Int32} {f : Nat → Nat} {n a r : Nat} (hm : q_rm rw f n) (hf : ∀ i, f i ≤ 1) (hn : n ≤ 4096) (ha : a ≤ n) (hr : q_rn f 0 (n - a) a = r) : (a + r < n → r ≤ 62 → a + r + (r + 1) ≤ n → j_X2_readDoubled rw (nI n) (nI a) (nI 0) = some (lN (q_val f (a + r) (r + 1)), nI (a + r + (r + 1)), nI 0)) ∧ ((n ≤ a + r ∨ 62 < r ∨ n < a + r + (r + 1)) → ∃ v fr, j_X2_readDoubled rw (nI n) (nI a) (nI 0) = some (v, fr, nI 1)) := by
  have e1 := q_run (b := 0) hm hf hn (by omega) ha
  have hle := q_rn_le f 0 (n - a) a
  rw [hr] at e1 hle
  have e0 : j_X2_readDoubled rw (nI n) (nI a) (nI 0) = (if (if a + r < n then nI 0 else nI 1) = (0 : Int32) then (j_X2_some rw (nI n) (nI (a + r)) (if a + r < n then nI 0 else nI 1) (nI r + nI 1)).bind (fun (v5, v6, v7) => some (v5, v6, v7)) else some ((0 : Int64), nI (a + r), (if a + r < n then nI 0 else nI 1))) := by
    unfold j_X2_readDoubled
    rw [show (0 : Int32) = nI 0 from rfl, e1]
    rfl
  by_cases c : a + r < n
  · rw [if_pos c] at e0
    rw [if_pos (show nI 0 = (0 : Int32) from rfl), nI_add] at e0
    constructor
    · intro _ h2 h3
      rw [e0, (q_someM hm hf hn (by omega) (by omega)).1 h3]
      rfl
    · intro h2
      rw [e0]
      by_cases d : r ≤ 62
      · obtain ⟨v, fr, e⟩ := (q_someM (b := r + 1) (c := a + r) hm hf hn (by omega) (by omega)).2 (by omega)
        exact ⟨v, fr, by rw [e]; rfl⟩
      · obtain ⟨v, e⟩ := q_someBig (rw := rw) (n := n) (b := r + 1) (fr := nI (a + r)) (no := nI 0) (by omega) (by omega)
        exact ⟨v, _, by rw [e]; rfl⟩
  · rw [if_neg c] at e0
    rw [if_neg (show ¬ nI 1 = (0 : Int32) by decide)] at e0
    exact ⟨fun h2 => absurd h2 c, fun _ => ⟨_, _, e0⟩⟩
theorem q_gam {w : Nat → Int64} {rw : Nat → Int32} {f : Nat → Nat} {n a : Nat} (h : q_row w f n) (hm : q_rm rw f n) (ha : a ≤ n) : (∃ v e, 1 ≤ v ∧ v ≤ 4611686018427387904 ∧ a ≤ e ∧ e ≤ n ∧ j_X1_readGamma w (nI n) (nI a) = some (lN v, nI e) ∧ j_X2_readDoubled rw (nI n) (nI a) (nI 0) = some (lN v, nI e, nI 0)) ∨ ((∃ c, c < 1000000 ∧ (j_X1_readGamma w (nI n) (nI a) = some ((-1 : Int64), nI c) ∨ (n < c ∧ ∃ v, 1 ≤ v ∧ v ≤ 4611686018427387904 ∧ j_X1_readGamma w (nI n) (nI a) = some (lN v, nI c)))) ∧ ((∃ v fr, j_X2_readDoubled rw (nI n) (nI a) (nI 0) = some (v, fr, nI 1)) ∨ (∃ v e, 4611686018427387904 < v ∧ v < 9223372036854775808 ∧ e ≤ n ∧ j_X2_readDoubled rw (nI n) (nI a) (nI 0) = some (lN v, nI e, nI 0)))) := by
  have hf := h.2.2.2
  have hn := h.2.2.1
  have hle := q_rn_le f 0 (n - a) a
  have hall := q_rn_all f 0 (n - a) a
  have hstop := q_rn_stop f 0 (n - a) a
  generalize hr : q_rn f 0 (n - a) a = r at hle hall hstop
  obtain ⟨m1, m2⟩ := q_dbl hm hf hn ha hr
  by_cases c1 : a + r < n ∧ r ≤ 62
  · obtain ⟨c1, c2⟩ := c1
    have h1 : f (a + r) = 1 := by
      have := hstop (by omega)
      have := hf (a + r)
      omega
    have eV : q_val f (a + r) (r + 1) = 2 ^ r + q_val f (a + r + 1) r := by
      rw [q_val_front, h1, Nat.one_mul]
    have hC := q_gamHit h r jF 0 a (by unfold jF; omega) (by omega) (by omega) hall h1
    have hC : j_X1_readGamma w (nI n) (nI a) = some (q_nn (q_val f (a + r) (r + 1)), nI (a + r + (r + 1))) := by
      unfold j_X1_readGamma
      rw [q_i0, hC, Nat.zero_add, eV, show a + r + 1 + r = a + r + (r + 1) by omega]
    have hlt := q_val_lt hf (a + r) (r + 1)
    have hp : 2 ^ (r + 1) ≤ 2 ^ 63 := Nat.pow_le_pow_right (by decide) (by omega)
    have hp0 := Nat.two_pow_pos r
    by_cases c3 : a + r + (r + 1) ≤ n
    · have hM := m1 c1 c2 c3
      by_cases c4 : q_val f (a + r) (r + 1) ≤ 4611686018427387904
      · refine Or.inl ⟨_, _, by omega, c4, by omega, c3, ?_, hM⟩
        rw [hC]
        unfold q_nn
        rw [if_pos c4]
      · refine Or.inr ⟨⟨a + r + (r + 1), by omega, Or.inl ?_⟩, Or.inr ⟨_, _, by omega, by omega, c3, hM⟩⟩
        rw [hC]
        unfold q_nn
        rw [if_neg c4]
    · refine Or.inr ⟨⟨a + r + (r + 1), by omega, ?_⟩, Or.inl (m2 (by omega))⟩
      rw [hC]
      unfold q_nn
      by_cases c4 : q_val f (a + r) (r + 1) ≤ 4611686018427387904
      · rw [if_pos c4]
        exact Or.inr ⟨by omega, _, by omega, c4, rfl⟩
      · rw [if_neg c4]
        exact Or.inl rfl
  · refine Or.inr ⟨⟨a + 63, by omega, Or.inl ?_⟩, Or.inl (m2 (by omega))⟩
    have hC := q_gamMiss h 63 jF 0 a (by unfold jF; omega) (by omega) (by omega) (fun i hi => by
      by_cases d : i < r
      · exact hall i d
      · exact h.2.1 _ (by omega))
    unfold j_X1_readGamma
    rw [q_i0]
    exact hC
def q_Cf (n : Nat) (x : Option (Int64 × Int32)) : Prop := ∃ r cu, x = some (r, cu) ∧ (r = -1 ∨ ∃ c, n < c ∧ c < 2147483648 ∧ cu = nI c)
def q_Mf (a : Nat) (x : Option (Int64 × Int32 × Int32 × Int32)) : Prop := ∃ fr no, x = some (-1, nI a, fr, no)
def q_rr (n a : Nat) (x : Option (Int64 × Int32)) (y : Option (Int64 × Int32 × Int32 × Int32)) : Prop := (∃ v e, q_num v ∧ a ≤ e ∧ e ≤ n ∧ x = some (lN v, nI e) ∧ y = some (lN v, nI e, nI e, nI 0)) ∨ (q_Cf n x ∧ q_Mf a y)
theorem q_196 {rw : Nat → Int32} {mn : Int32} {sm : Nat → Int64} {v : Nat} {at_ fr : Int32} (hv : q_num v) : jS_X2_reads_196 rw mn sm (lN v) at_ fr (nI 0) = some (lN v, fr, fr, nI 0) := by
  obtain ⟨h1, h2⟩ := hv
  unfold jS_X2_reads_196
  rw [if_pos (show nI 0 = (0 : Int32) from rfl), q_lM, q_l1, if_neg (fun h9 => by have := (q_llt (by omega) (by omega)).mp h9; omega), if_pos ((q_lle (by omega) (by omega)).mpr h2)]
theorem q_196n {rw : Nat → Int32} {mn : Int32} {sm : Nat → Int64} {x : Int64} {a : Nat} {fr : Int32} : q_Mf a (jS_X2_reads_196 rw mn sm x (nI a) fr (nI 1)) := by
  unfold jS_X2_reads_196
  rw [if_neg (show ¬ nI 1 = (0 : Int32) by decide)]
  exact ⟨_, _, rfl⟩
theorem q_196b {rw : Nat → Int32} {mn : Int32} {sm : Nat → Int64} {v a : Nat} {fr no : Int32} (h1 : 4611686018427387904 < v) (h2 : v < 9223372036854775808) : q_Mf a (jS_X2_reads_196 rw mn sm (lN v) (nI a) fr no) := by
  unfold jS_X2_reads_196
  rw [q_lM, if_neg (show ¬ lN v ≤ lN 4611686018427387904 from fun h9 => by have := (q_lle (by omega) (by omega)).mp h9; omega)]
  split
  · split <;> exact ⟨_, _, rfl⟩
  · exact ⟨_, _, rfl⟩
theorem q_k0 {w : Nat → Int64} {rw : Nat → Int32} {fb sm : Nat → Int64} {f : Nat → Nat} {n a : Nat} {p fr no : Int32} (h : q_row w f n) (hm : q_rm rw f n) (ha : a ≤ n) : q_rr n a (j_X1_readCodeword w (nI n) (nI a) fb (nI 0) p) (j_X2_reads rw (nI n) (nI a) sm fr no (nI 0) p) := by
  have hf := h.2.2.2
  have hn := h.2.2.1
  have e1 := q_run (b := 1) hm hf hn (by omega) ha
  have e2 := q_readOnes h ha
  have hle := q_rn_le f 1 (n - a) a
  generalize q_rn f 1 (n - a) a = r at e1 e2 hle
  have eC : j_X1_readCodeword w (nI n) (nI a) fb (nI 0) p = some (lN (r + 1), nI (a + r + 1)) := by
    unfold j_X1_readCodeword
    rw [if_pos (by decide), e2, Option.bind_some]
    show some ((nI r).toInt64 + lN 1, nI (a + r + 1)) = _
    rw [q_i2l (by omega), lN_add]
  have eM : j_X2_reads rw (nI n) (nI a) sm fr no (nI 0) p = jS_X2_reads_196 rw (nI n) sm (lN (r + 1)) (nI a) (nI (a + r + 1)) (if a + r < n then nI 0 else nI 1) := by
    unfold j_X2_reads
    rw [if_pos (by decide), q_i0, q_i1, e1, Option.bind_some]
    show jS_X2_reads_196 rw (nI n) sm ((nI r).toInt64 + lN 1) (nI a) (nI (a + r) + nI 1) (if a + r < n then nI 0 else nI 1) = _
    rw [q_i2l (by omega), lN_add, nI_add]
  rw [eC, eM]
  by_cases c : a + r < n
  · rw [if_pos c]
    have hv : q_num (r + 1) := ⟨by omega, by omega⟩
    rw [q_196 hv]
    exact Or.inl ⟨_, _, hv, by omega, by omega, rfl, rfl⟩
  · rw [if_neg c]
    exact Or.inr ⟨⟨_, _, rfl, Or.inr ⟨a + r + 1, by omega, by omega, rfl⟩⟩, q_196n⟩
theorem q_k1 {w : Nat → Int64} {rw : Nat → Int32} {fb sm : Nat → Int64} {f : Nat → Nat} {n a : Nat} {p fr no : Int32} (h : q_row w f n) (hm : q_rm rw f n) (ha : a ≤ n) : q_rr n a (j_X1_readCodeword w (nI n) (nI a) fb (nI 1) p) (j_X2_reads rw (nI n) (nI a) sm fr no (nI 1) p) := by
  have eC : j_X1_readCodeword w (nI n) (nI a) fb (nI 1) p = (j_X1_readGamma w (nI n) (nI a)).bind fun (v5, v6) => some (v5, v6) := by
    unfold j_X1_readCodeword
    rw [if_neg (by decide), if_pos (by decide)]
  have eM : j_X2_reads rw (nI n) (nI a) sm fr no (nI 1) p = (j_X2_readDoubled rw (nI n) (nI a) (nI 0)).bind fun (v7, v8, v9) => (jS_X2_reads_196 rw (nI n) sm v7 (nI a) v8 v9) := by
    unfold j_X2_reads
    rw [if_neg (by decide), if_pos (by decide)]
    rfl
  rw [eC, eM]
  rcases q_gam h hm ha with ⟨v, e, v1, v2, e1, e2, hC, hM⟩ | ⟨⟨c, c1, hC⟩, hM⟩
  · rw [hC, hM, Option.bind_some, Option.bind_some]
    exact Or.inl ⟨v, e, ⟨v1, v2⟩, e1, e2, rfl, q_196 ⟨v1, v2⟩⟩
  · refine Or.inr ⟨?_, ?_⟩
    · rcases hC with hC | ⟨c2, v, v1, v2, hC⟩
      · rw [hC]; exact ⟨_, _, rfl, Or.inl rfl⟩
      · rw [hC]; exact ⟨_, _, rfl, Or.inr ⟨c, c2, by omega, rfl⟩⟩
    · rcases hM with ⟨v, fr, hM⟩ | ⟨v, e, v1, v2, e2, hM⟩
      · rw [hM]; exact q_196n (rw := rw) (mn := nI n) (sm := sm)
      · rw [hM]; exact q_196b (rw := rw) (mn := nI n) (sm := sm) v1 v2
def q_M2 (rw : Nat → Int32) (mn : Int32) (sm : Nat → Int64) (at_ : Int32) (v10 : Int64) (v11 v12 : Int32) : Option (Int64 × Int32 × Int32 × Int32) :=
  if v10 ≤ (63 : Int64) then (if v12 = (0 : Int32) then ((j_X2_some rw mn v11 v12 (v10.toInt32 - (1 : Int32))).bind fun (v15, v16, v17) => (if v17 = (0 : Int32) then (jS_X2_reads_196 rw mn sm (((1 : Int64) <<< ((v10.toInt32 - (1 : Int32)).toInt64 &&& 63)) + v15) at_ v16 v17) else (jS_X2_reads_196 rw mn sm (0 : Int64) at_ v16 v17))) else (jS_X2_reads_196 rw mn sm (0 : Int64) at_ v11 v12)) else (jS_X2_reads_196 rw mn sm (0 : Int64) at_ v11 (1 : Int32))
def q_C2 (w : Nat → Int64) (en : Int32) (v1 : Int64) (v2 : Int32) : Option (Int64 × Int32) :=
  if v1 = (-1 : Int64) then (some ((-1 : Int64), v2)) else (if v1 ≤ (63 : Int64) then ((j_X0_readBits w en v2 (1 : Int64) (v1.toInt32 - (1 : Int32))).bind fun (v5, v6) => ((j_X1_numberOrNone v5).bind fun v7 => (some (v7, v6)))) else (some ((-1 : Int64), v2)))
theorem q_neg1 {v : Nat} (h : v < 9223372036854775808) : ¬ lN v = (-1 : Int64) := by
  intro e
  have e1 : (lN v).toInt = (v : Int) := pf_lI h
  rw [e] at e1
  have e2 : (-1 : Int64).toInt = -1 := by decide
  omega
theorem q_C2v {w : Nat → Int64} {f : Nat → Nat} {n v c : Nat} (h : q_row w f n) (v1 : 1 ≤ v) (v2 : v < 9223372036854775808) (hc : c < 1000000) : q_C2 w (nI n) (lN v) (nI c) = if v ≤ 63 then some (q_nn (2 ^ (v - 1) + q_val f c (v - 1)), nI (c + (v - 1))) else some ((-1 : Int64), nI c) := by
  unfold q_C2
  rw [if_neg (q_neg1 v2), q_l63, lN_i, q_i1, q_sub v1]
  by_cases d : v ≤ 63
  · rw [if_pos ((q_lle v2 (by omega)).mpr d), if_pos d, q_l1, q_readBits h hc (by omega), Option.bind_some]
    have hv := q_val_lt h.2.2.2 c (v - 1)
    have hp : 2 ^ (v - 1) ≤ 2 ^ 62 := Nat.pow_le_pow_right (by decide) (by omega)
    show (j_X1_numberOrNone (lN (1 * 2 ^ (v - 1) + q_val f c (v - 1)))).bind (fun v7 => some (v7, nI (c + (v - 1)))) = _
    rw [Nat.one_mul, q_nnE (by omega), Option.bind_some]
  · rw [if_neg (fun h9 => d ((q_lle v2 (by omega)).mp h9)), if_neg d]
theorem q_k2 {w : Nat → Int64} {rw : Nat → Int32} {fb sm : Nat → Int64} {f : Nat → Nat} {n a : Nat} {p fr no : Int32} (h : q_row w f n) (hm : q_rm rw f n) (ha : a ≤ n) : q_rr n a (j_X1_readCodeword w (nI n) (nI a) fb (nI 2) p) (j_X2_reads rw (nI n) (nI a) sm fr no (nI 2) p) := by
  have hf := h.2.2.2
  have hn := h.2.2.1
  have eC : j_X1_readCodeword w (nI n) (nI a) fb (nI 2) p = ((j_X1_readGamma w (nI n) (nI a)).bind fun (v1, v2) => q_C2 w (nI n) v1 v2).bind fun (v7, v8) => some (v7, v8) := by
    unfold j_X1_readCodeword
    rw [if_neg (by decide), if_neg (by decide), if_pos (by decide)]
    rfl
  have eM : j_X2_reads rw (nI n) (nI a) sm fr no (nI 2) p = (j_X2_readDoubled rw (nI n) (nI a) (nI 0)).bind fun (v7, v8, v9) => q_M2 rw (nI n) sm (nI a) v7 v8 v9 := by
    unfold j_X2_reads
    rw [if_neg (by decide), if_neg (by decide), if_pos (by decide)]
    rfl
  rw [eC, eM]
  rcases q_gam h hm ha with ⟨v, e, v1, v2, e1, e2, hC, hM⟩ | ⟨⟨c, c1, hC⟩, hM⟩
  · rw [hC, hM, Option.bind_some, Option.bind_some]
    show q_rr n a ((q_C2 w (nI n) (lN v) (nI e)).bind fun (v7, v8) => some (v7, v8)) (q_M2 rw (nI n) sm (nI a) (lN v) (nI e) (nI 0))
    rw [q_C2v h v1 (by omega) (by omega)]
    unfold q_M2
    rw [q_l63, lN_i, q_i1, q_sub v1]
    by_cases d : v ≤ 63
    · rw [if_pos ((q_lle (by omega) (by omega)).mpr d), if_pos d, if_pos (show nI 0 = (0 : Int32) from rfl), Option.bind_some]
      have hv := q_val_lt hf e (v - 1)
      have hp : 2 ^ (v - 1) ≤ 2 ^ 62 := Nat.pow_le_pow_right (by decide) (by omega)
      have hp0 := Nat.two_pow_pos (v - 1)
      have hs := q_someM (b := v - 1) (c := e) hm hf hn (by omega) e2
      by_cases d2 : e + (v - 1) ≤ n
      · rw [hs.1 d2, Option.bind_some]
        show q_rr n a (some (q_nn (2 ^ (v - 1) + q_val f e (v - 1)), nI (e + (v - 1)))) (if nI 0 = (0 : Int32) then (jS_X2_reads_196 rw (nI n) sm ((lN 1 <<< ((nI (v - 1)).toInt64 &&& 63)) + lN (q_val f e (v - 1))) (nI a) (nI (e + (v - 1))) (nI 0)) else _)
        rw [if_pos (show nI 0 = (0 : Int32) from rfl), q_lshl 1 (by omega), Nat.one_mul, lN_add]
        unfold q_nn
        by_cases d3 : 2 ^ (v - 1) + q_val f e (v - 1) ≤ 4611686018427387904
        · have hv : q_num (2 ^ (v - 1) + q_val f e (v - 1)) := ⟨by omega, d3⟩
          rw [if_pos d3, q_196 hv]
          exact Or.inl ⟨_, _, hv, by omega, d2, rfl, rfl⟩
        · rw [if_neg d3]
          exact Or.inr ⟨⟨_, _, rfl, Or.inl rfl⟩, q_196b (by omega) (by omega)⟩
      · obtain ⟨x, y, e9⟩ := hs.2 (by omega)
        rw [e9, Option.bind_some]
        exact Or.inr ⟨⟨_, _, rfl, Or.inr ⟨e + (v - 1), by omega, by omega, rfl⟩⟩, q_196n (rw := rw) (mn := nI n) (sm := sm) (x := 0) (a := a) (fr := y)⟩
    · rw [if_neg (fun h9 => d ((q_lle (by omega) (by omega)).mp h9)), if_neg d]
      exact Or.inr ⟨⟨_, _, rfl, Or.inl rfl⟩, q_196n⟩
  · refine Or.inr ⟨?_, ?_⟩
    · rcases hC with hC | ⟨c2, v, v1, v2, hC⟩
      · rw [hC, Option.bind_some]
        show q_Cf n ((q_C2 w (nI n) (-1 : Int64) (nI c)).bind fun (v7, v8) => some (v7, v8))
        unfold q_C2
        rw [if_pos rfl]
        exact ⟨_, _, rfl, Or.inl rfl⟩
      · rw [hC, Option.bind_some]
        show q_Cf n ((q_C2 w (nI n) (lN v) (nI c)).bind fun (v7, v8) => some (v7, v8))
        rw [q_C2v h v1 (by omega) (by omega)]
        split
        · exact ⟨_, _, rfl, Or.inr ⟨c + (v - 1), by omega, by omega, rfl⟩⟩
        · exact ⟨_, _, rfl, Or.inl rfl⟩
    · rcases hM with ⟨v, fr, hM⟩ | ⟨v, e, v1, v2, e2, hM⟩
      · rw [hM, Option.bind_some]
        show q_Mf a (q_M2 rw (nI n) sm (nI a) v fr (nI 1))
        unfold q_M2
        rw [if_neg (show ¬ nI 1 = (0 : Int32) by decide)]
        split <;> exact q_196n
      · rw [hM, Option.bind_some]
        show q_Mf a (q_M2 rw (nI n) sm (nI a) (lN v) (nI e) (nI 0))
        unfold q_M2
        rw [q_l63, if_neg (fun h9 => by have := (q_lle (by omega) (by omega)).mp h9; omega)]
        exact q_196n
