/-! The reference's edges are the thresholds. -/
theorem q_T_bd {k p L : Nat} (ho : q_ok k p) (hL : L ≤ 300) : 1 ≤ q_T k p L ∧ q_T k p L ≤ 4611686018427387905 := by
  obtain ⟨k7, o1, o2, o3, o4⟩ := ho
  rcases (show k = 0 ∨ (1 ≤ k ∧ k ≤ 3) ∨ k = 4 ∨ k = 5 ∨ k = 6 ∨ k = 7 by omega) with rfl | ⟨h1, h3⟩ | rfl | rfl | rfl | rfl
  · rw [q_T0]
    split <;> omega
  · rw [q_T13 h1 h3]
    split
    · have a := Nat.two_pow_pos (q_B k L)
      have b : 2 ^ q_B k L ≤ 2 ^ 62 := Nat.pow_le_pow_right (by decide) (by omega)
      omega
    · omega
  · rw [q_T4]
    split
    · have a := (q_F_pos (L - 2)).1
      have b := q_F_mono (show L - 2 ≤ 88 by omega)
      have c := q_F88
      omega
    · omega
  · obtain ⟨p1, p2⟩ := o2 rfl
    rw [q_T5]
    split
    · omega
    · have a : (L - 1 - q_bl (p - 1)) * p ≤ 300 * 1000000 := Nat.mul_le_mul (by omega) p2
      have b := q_s_lt p1
      omega
  · rw [q_T6]
    have hp := o3 rfl
    split
    · have a : (2 ^ ((L - p) / 2) - 1) * 2 ^ p ≤ 2 ^ ((L - p) / 2) * 2 ^ p := Nat.mul_le_mul_right _ (Nat.sub_le _ _)
      rw [← Nat.pow_add] at a
      have b : 2 ^ ((L - p) / 2 + p) ≤ 2 ^ 62 := Nat.pow_le_pow_right (by decide) (by omega)
      omega
    · omega
  · rw [q_T7]
    split
    · omega
    · split
      · have b : 2 ^ ((L - 1) / (p + 1) * p) ≤ 2 ^ 61 := Nat.pow_le_pow_right (by decide) (by omega)
        have b0 := Nat.two_pow_pos ((L - 1) / (p + 1) * p)
        omega
      · omega
theorem q_T_mono {k p L : Nat} (ho : q_ok k p) (hL : L ≤ 299) : q_T k p L ≤ q_T k p (L + 1) := by
  have a := q_T_bd (L := L) ho (by omega)
  have b := q_T_bd (L := L + 1) ho (by omega)
  rcases Nat.lt_or_ge (q_T k p (L + 1)) (q_T k p L) with h | h
  · have hn : q_num (q_T k p (L + 1)) := ⟨b.1, by omega⟩
    have c := (q_T_iff (L := L) ho (by omega) hn).mpr h
    have d := (q_T_iff (L := L + 1) ho (by omega) hn).mp (by omega)
    omega
  · exact h
def q_ed (k p L : Nat) (sm : Nat → Int64) : Prop := (q_T k p L < q_T k p (L + 1) → j_X2_edge sm (nI k) (nI p) (nI L) (nI 0) = some (lN (q_T k p L)) ∧ j_X2_edge sm (nI k) (nI p) (nI L) (nI 1) = some (lN (q_T k p (L + 1) - 1))) ∧ (q_T k p (L + 1) ≤ q_T k p L → j_X2_edge sm (nI k) (nI p) (nI L) (nI 0) = some (lN 0))
theorem q_ed0 {p L : Nat} {sm : Nat → Int64} (hL : L ≤ 200) : q_ed 0 p L sm := by
  have e : ∀ a4, j_X2_edge sm (nI 0) (nI p) (nI L) a4 = some (lN L) := by
    intro a4
    unfold j_X2_edge
    rw [if_pos (by decide), q_i2l (by omega)]
  unfold q_ed
  rw [q_T0, q_T0, e, e, if_neg (show ¬ L + 1 = 0 by omega)]
  by_cases c : L = 0
  · rw [if_pos c]
    exact ⟨fun h => by omega, fun _ => by rw [c]⟩
  · rw [if_neg c]
    exact ⟨fun _ => ⟨rfl, rfl⟩, fun h => by omega⟩
theorem q_bl_pow (b : Nat) : q_bl (2 ^ b) = b + 1 := q_bl_eq (Nat.le_refl _) (by rw [Nat.pow_succ]; have := Nat.two_pow_pos b; omega)
theorem q_firstOf {b : Nat} (h1 : 1 ≤ b) (h2 : b ≤ 64) : j_X2_firstOf (nI b) = some (lN (2 ^ (b - 1))) := by
  unfold j_X2_firstOf
  rw [q_l1, q_i1, q_sub h1, q_lshl 1 (by omega), Nat.one_mul]
theorem q_lastOf {b : Nat} (h2 : b ≤ 63) : j_X2_lastOf (nI b) = some (lN (if b ≤ 62 then 2 ^ b - 1 else 4611686018427387904)) := by
  unfold j_X2_lastOf
  have := Nat.two_pow_pos b
  by_cases c : b ≤ 62
  · rw [q_i62, if_pos ((q_le (by omega) (by omega)).mpr c), if_pos c, q_l1, q_lshl 1 (by omega), Nat.one_mul, q_lsub (by omega)]
  · rw [q_i62, if_neg (fun h9 => c ((q_le (by omega) (by omega)).mp h9)), if_neg c]
    rfl
theorem q_bitsForL {sm : Nat → Int64} (hsm : ∀ i, 1 ≤ i → i < 92 → sm i = lN (q_F (i - 1))) {k L : Nat} (h1 : 1 ≤ k) (h3 : k ≤ 3) (hL : L ≤ 300) : ∀ (m z b : Nat), b + m = 64 → m < z → 1 ≤ b → (∀ b0, b ≤ b0 → b0 ≤ 63 → q_G k b0 = L → jL_X2_bitsFor_2 sm (nI k) (nI L) z (nI b) = some (nI b0)) ∧ ((∀ b0, b ≤ b0 → b0 ≤ 63 → q_G k b0 ≠ L) → jL_X2_bitsFor_2 sm (nI k) (nI L) z (nI b) = some (nI 0)) := by
  intro m
  induction m with
  | zero =>
    intro z b hb hz h1b
    cases z with
    | zero => omega
    | succ z =>
      refine ⟨fun b0 h4 h5 => by omega, fun _ => ?_⟩
      show (if nI 64 ≤ nI b then some (nI 0) else _) = _
      rw [if_pos ((q_le (by omega) (by omega)).mpr (by omega))]
  | succ m ih =>
    intro z b hb hz h1b
    cases z with
    | zero => omega
    | succ z =>
      have hi := ih z (b + 1) (by omega) (by omega) (by omega)
      have hpw : 2 ^ (b - 1) ≤ 2 ^ 62 := Nat.pow_le_pow_right (by decide) (by omega)
      have hn : q_num (2 ^ (b - 1)) := ⟨Nat.two_pow_pos _, by omega⟩
      have ho : q_ok k 0 := ⟨by omega, fun _ => rfl, fun h => by omega, fun h => by omega, fun h => by omega⟩
      have hle := q_len_le ho hn
      have eG := q_lenG (p := 0) h1 h3 hn
      rw [q_bl_pow, show b - 1 + 1 = b by omega] at eG
      have e : jL_X2_bitsFor_2 sm (nI k) (nI L) (z + 1) (nI b) = if q_G k b = L then some (nI b) else jL_X2_bitsFor_2 sm (nI k) (nI L) z (nI (b + 1)) := by
        show (if nI 64 ≤ nI b then some (nI 0) else ((j_X2_firstOf (nI b)).bind fun v202 => ((j_X2_lengthOf sm (nI k) (nI 0) v202).bind fun v203 => (if v203 = (nI L).toInt64 then (some (nI b)) else (jL_X2_bitsFor_2 sm (nI k) (nI L) z (nI b + nI 1)))))) = _
        rw [if_neg (fun h9 => by have := (q_le (by omega) (by omega)).mp h9; omega), q_firstOf h1b (by omega), Option.bind_some, q_lenM hsm ho hn, Option.bind_some, q_i2l (by omega), nI_add, eG]
        by_cases c : q_G k b = L
        · rw [if_pos (by rw [c]), if_pos c]
        · rw [if_neg (fun h9 => c ((q_leq (by omega) (by omega)).mp h9)), if_neg c]
      rw [e]
      refine ⟨fun b0 h4 h5 h6 => ?_, fun h4 => ?_⟩
      · by_cases c : b = b0
        · subst c
          rw [if_pos h6]
        · have := q_Glt h1 h3 h1b h5 (show b < b0 by omega)
          rw [if_neg (by omega)]
          exact hi.1 b0 (by omega) h5 h6
      · rw [if_neg (h4 b (by omega) (by omega))]
        exact hi.2 (fun b0 h5 h6 => h4 b0 (by omega) h6)
theorem q_ed13 {sm : Nat → Int64} (hsm : ∀ i, 1 ≤ i → i < 92 → sm i = lN (q_F (i - 1))) {k p L : Nat} (h1 : 1 ≤ k) (h3 : k ≤ 3) (hL : L ≤ 200) : q_ed k p L sm := by
  have hb := q_bitsForL hsm (L := L) h1 h3 (by omega) 63 jF 1 (by omega) (by unfold jF; omega) (by omega)
  have e : ∀ a4, j_X2_edge sm (nI k) (nI p) (nI L) a4 = (j_X2_bitsFor sm (nI k) (nI L)).bind fun v30 => (if v30 = (0 : Int32) then (some (0 : Int64)) else (if a4 = (0 : Int32) then ((j_X2_firstOf v30).bind fun v33 => (some v33)) else ((j_X2_lastOf v30).bind fun v34 => (some v34)))) := by
    intro a4
    unfold j_X2_edge
    rw [q_i0, q_i4, if_neg (fun h9 => by have := (q_eq (by omega) (by omega)).mp h9; omega), if_neg (fun h9 => by have := (q_le (by omega) (by omega)).mp h9; omega)]
  have eF : j_X2_bitsFor sm (nI k) (nI L) = jL_X2_bitsFor_2 sm (nI k) (nI L) jF (nI 1) := rfl
  unfold q_ed
  rw [q_T13 h1 h3, q_T13 h1 h3]
  by_cases c : ∃ b0, 1 ≤ b0 ∧ b0 ≤ 63 ∧ q_G k b0 = L
  · obtain ⟨b0, c1, c2, c3⟩ := c
    have hz : ¬ nI b0 = nI 0 := fun h9 => by have := (q_eq (by omega) (by omega)).mp h9; omega
    have E0 : j_X2_edge sm (nI k) (nI p) (nI L) (nI 0) = some (lN (2 ^ (b0 - 1))) := by
      rw [e, eF, hb.1 b0 c1 c2 c3, Option.bind_some, q_i0, if_neg hz, if_pos rfl, q_firstOf c1 (by omega), Option.bind_some]
    have E1 : j_X2_edge sm (nI k) (nI p) (nI L) (nI 1) = some (lN (if b0 ≤ 62 then 2 ^ b0 - 1 else 4611686018427387904)) := by
      rw [e, eF, hb.1 b0 c1 c2 c3, Option.bind_some, q_i0, if_neg hz, if_neg (show ¬ nI 1 = nI 0 by decide), q_lastOf c2, Option.bind_some]
    rw [E0, E1]
    have B1 : q_B k L = b0 - 1 := by
      have h5 := q_B_le k L
      have h6 := q_B_iff (L := L) h1 h3 c1 c2
      rcases Nat.lt_or_ge (q_B k L) (b0 - 1) with h7 | h7
      · have h8 := q_B_iff (L := L) (b := b0 - 1) h1 h3 (by omega) (by omega)
        have h9 := q_Glt h1 h3 (a := b0 - 1) (b := b0) (by omega) c2 (by omega)
        omega
      · omega
    have B2 : q_B k (L + 1) = b0 := by
      have h5 := q_B_le k (L + 1)
      have h6 := q_B_iff (L := L + 1) h1 h3 c1 c2
      rcases Nat.lt_or_ge b0 (q_B k (L + 1)) with h7 | h7
      · have h8 := q_B_iff (L := L + 1) (b := b0 + 1) h1 h3 (by omega) (by omega)
        have h9 := q_Glt h1 h3 (a := b0) (b := b0 + 1) c1 (by omega) (by omega)
        omega
      · omega
    rw [B1, B2, if_pos (show b0 - 1 < 63 by omega)]
    have hpw : 2 ^ (b0 - 1) ≤ 2 ^ 62 := Nat.pow_le_pow_right (by decide) (by omega)
    have hp2 : 2 ^ b0 = 2 * 2 ^ (b0 - 1) := by rw [← Nat.pow_succ', show (b0 - 1).succ = b0 by omega]
    have hp0 := Nat.two_pow_pos (b0 - 1)
    by_cases d : b0 < 63
    · rw [if_pos d, if_pos (show b0 ≤ 62 by omega)]
      exact ⟨fun _ => ⟨rfl, rfl⟩, fun h9 => by omega⟩
    · rw [if_neg d, if_neg (show ¬ b0 ≤ 62 by omega)]
      exact ⟨fun _ => ⟨rfl, rfl⟩, fun h9 => by omega⟩
  · have c0 : ∀ b0, 1 ≤ b0 → b0 ≤ 63 → q_G k b0 ≠ L := fun b0 h4 h5 h6 => c ⟨b0, h4, h5, h6⟩
    have E0 : j_X2_edge sm (nI k) (nI p) (nI L) (nI 0) = some (lN 0) := by
      rw [e, eF, hb.2 c0, Option.bind_some, q_i0, if_pos rfl, q_l0]
    rw [E0]
    have B1 : q_B k (L + 1) = q_B k L := by
      have h5 := q_B_le k (L + 1)
      have h6 := q_B_le k L
      rcases Nat.lt_trichotomy (q_B k (L + 1)) (q_B k L) with h7 | h7 | h7
      · have a := q_B_iff (L := L + 1) (b := q_B k L) h1 h3 (by omega) h6
        have b := q_B_iff (L := L) (b := q_B k L) h1 h3 (by omega) h6
        omega
      · exact h7
      · have a := q_B_iff (L := L + 1) (b := q_B k (L + 1)) h1 h3 (by omega) h5
        have b := q_B_iff (L := L) (b := q_B k (L + 1)) h1 h3 (by omega) h5
        have d := c0 (q_B k (L + 1)) (by omega) h5
        omega
    rw [B1]
    exact ⟨fun h9 => by omega, fun _ => rfl⟩
theorem q_ed4 {sm : Nat → Int64} (hsm : ∀ i, 1 ≤ i → i < 92 → sm i = lN (q_F (i - 1))) {p L : Nat} (hL : L ≤ 200) : q_ed 4 p L sm := by
  have e : ∀ a4, j_X2_edge sm (nI 4) (nI p) (nI L) a4 = (if (nI L - (1 : Int32)) < (1 : Int32) then (some (0 : Int64)) else (if (nI L - (1 : Int32)) ≤ (89 : Int32) then (jix ((nI L - (1 : Int32)) + (1 : Int32)) 92 (if a4 = (0 : Int32) then (jix (nI L - (1 : Int32)) 92 (some (sm (nI L - (1 : Int32)).toNatClampNeg))) else (if ((sm ((nI L - (1 : Int32)) + (1 : Int32)).toNatClampNeg) - (1 : Int64)) ≤ (4611686018427387904 : Int64) then (some ((sm ((nI L - (1 : Int32)) + (1 : Int32)).toNatClampNeg) - (1 : Int64))) else (some (4611686018427387904 : Int64))))) else (some (0 : Int64)))) := by
    intro a4
    unfold j_X2_edge
    rw [if_neg (show ¬ nI 4 = (0 : Int32) by decide), if_pos (show (4 : Int32) ≤ nI 4 by decide), if_pos (show nI 4 = (4 : Int32) by decide)]
  have h0 : q_F 0 = 1 := rfl
  unfold q_ed
  rw [q_T4, q_T4]
  by_cases c0 : L ≤ 1
  · have E0 : j_X2_edge sm (nI 4) (nI p) (nI L) (nI 0) = some (lN 0) := by
      rw [e]
      rcases (show L = 0 ∨ L = 1 by omega) with rfl | rfl
      · rw [if_pos (show (nI 0 - (1 : Int32)) < (1 : Int32) by decide)]
        rfl
      · rw [if_pos (show (nI 1 - (1 : Int32)) < (1 : Int32) by decide)]
        rfl
    rw [E0, if_pos (show L < 91 by omega), if_pos (show L + 1 < 91 by omega), show L - 2 = 0 by omega, show L + 1 - 2 = 0 by omega]
    exact ⟨fun h9 => absurd h9 (Nat.lt_irrefl _), fun _ => rfl⟩
  · have hx : ¬ nI (L - 1) < nI 1 := fun h9 => by have := (q_lt (by omega) (by omega)).mp h9; omega
    by_cases c2 : L ≤ 90
    · have hy : nI (L - 1) ≤ nI 89 := (q_le (by omega) (by omega)).mpr (by omega)
      have hlt := q_F_lt (L - 2)
      rw [show L - 2 + 1 = L - 1 by omega] at hlt
      have hsm1 := q_F_small (i := L - 1) (by omega)
      have E0 : j_X2_edge sm (nI 4) (nI p) (nI L) (nI 0) = some (lN (q_F (L - 2))) := by
        rw [e, q_i1, q_sub (show 1 ≤ L by omega), nI_add, show L - 1 + 1 = L by omega, q_i89, q_i0, if_neg hx, if_pos hy, q_jix (by omega) (by omega), if_pos rfl, q_jix (by omega) (by omega), q_clamp (by omega), hsm (L - 1) (by omega) (by omega), show L - 1 - 1 = L - 2 by omega]
      have E1 : j_X2_edge sm (nI 4) (nI p) (nI L) (nI 1) = if lN (q_F (L - 1) - 1) ≤ lN 4611686018427387904 then some (lN (q_F (L - 1) - 1)) else some (lN 4611686018427387904) := by
        rw [e, q_i1, q_sub (show 1 ≤ L by omega), nI_add, show L - 1 + 1 = L by omega, q_i89, q_i0, if_neg hx, if_pos hy, q_jix (by omega) (by omega), if_neg (show ¬ nI 1 = nI 0 by decide), q_clamp (by omega), hsm L (by omega) (by omega), q_l1, q_lM, q_lsub (show 1 ≤ q_F (L - 1) by omega)]
      rw [E0, E1, if_pos (show L < 91 by omega), show L + 1 - 2 = L - 1 by omega]
      by_cases c3 : L < 90
      · have b := q_F_mono (show L - 1 ≤ 88 by omega)
        have c := q_F88
        rw [if_pos (show L + 1 < 91 by omega), if_pos ((q_lle (by omega) (by omega)).mpr (by omega))]
        exact ⟨fun _ => ⟨rfl, rfl⟩, fun h9 => by omega⟩
      · have e9 : L = 90 := by omega
        subst e9
        have hF : 4611686018427387905 < q_F (90 - 1) := by decide +kernel
        have hF2 := q_F_mono (show 90 - 2 ≤ 88 by omega)
        have c := q_F88
        rw [if_neg (show ¬ 90 + 1 < 91 by omega), if_neg (show ¬ lN (q_F (90 - 1) - 1) ≤ lN 4611686018427387904 from fun h9 => by have := (q_lle (by omega) (by omega)).mp h9; omega)]
        exact ⟨fun _ => ⟨rfl, rfl⟩, fun h9 => by omega⟩
    · have E0 : j_X2_edge sm (nI 4) (nI p) (nI L) (nI 0) = some (lN 0) := by
        rw [e, q_i1, q_sub (show 1 ≤ L by omega), nI_add, show L - 1 + 1 = L by omega, q_i89, q_i0, if_neg hx, if_neg (show ¬ nI (L - 1) ≤ nI 89 from fun h9 => by have := (q_le (by omega) (by omega)).mp h9; omega)]
        rfl
      rw [E0, if_neg (show ¬ L < 91 by omega), if_neg (show ¬ L + 1 < 91 by omega)]
      exact ⟨fun h9 => by omega, fun _ => rfl⟩
theorem q_ed7 {sm : Nat → Int64} {p L : Nat} (p1 : 1 ≤ p) (p2 : p ≤ 16) (hL : L ≤ 200) : q_ed 7 p L sm := by
  have e : ∀ a4, j_X2_edge sm (nI 7) (nI p) (nI L) a4 = (jdvI (nI p + (1 : Int32)) (jdvI (nI p + (1 : Int32)) (if (nI L - nI L / (nI p + (1 : Int32)) * (nI p + (1 : Int32))) = (0 : Int32) then (if (nI L / (nI p + (1 : Int32))) < (1 : Int32) then (some (0 : Int64)) else (if (nI p * ((nI L / (nI p + (1 : Int32))) - (1 : Int32))) ≤ (61 : Int32) then (if (nI p * (nI L / (nI p + (1 : Int32)))) ≤ (61 : Int32) then (if a4 = (0 : Int32) then (if (nI L / (nI p + (1 : Int32))) = (1 : Int32) then (some (1 : Int64)) else (some (((1 : Int64) <<< ((nI p * ((nI L / (nI p + (1 : Int32))) - (1 : Int32))).toInt64 &&& 63)) + (1 : Int64)))) else (some ((1 : Int64) <<< ((nI p * (nI L / (nI p + (1 : Int32)))).toInt64 &&& 63)))) else (if a4 = (0 : Int32) then (if (nI L / (nI p + (1 : Int32))) = (1 : Int32) then (some (1 : Int64)) else (some (((1 : Int64) <<< ((nI p * ((nI L / (nI p + (1 : Int32))) - (1 : Int32))).toInt64 &&& 63)) + (1 : Int64)))) else (some (4611686018427387904 : Int64)))) else (some (0 : Int64)))) else (some (0 : Int64))))) := by
    intro a4
    unfold j_X2_edge
    rw [if_neg (show ¬ nI 7 = (0 : Int32) by decide), if_pos (show (4 : Int32) ≤ nI 7 by decide), if_neg (show ¬ nI 7 = (4 : Int32) by decide), if_neg (show ¬ nI 7 = (6 : Int32) by decide)]
  have hdm := Nat.div_add_mod L (p + 1)
  have hmod := Nat.mod_lt L (show p + 1 > 0 by omega)
  have hg : L / (p + 1) ≤ L := Nat.div_le_self _ _
  have hpg : p * (L / (p + 1)) ≤ 16 * 200 := Nat.mul_le_mul p2 (by omega)
  have e : ∀ a4, j_X2_edge sm (nI 7) (nI p) (nI L) a4 = (if L % (p + 1) = 0 then (if L / (p + 1) = 0 then some (lN 0) else (if p * (L / (p + 1) - 1) ≤ 61 then (if p * (L / (p + 1)) ≤ 61 then (if a4 = (0 : Int32) then (if L / (p + 1) = 1 then some (lN 1) else some (lN (2 ^ (p * (L / (p + 1) - 1)) + 1))) else some (lN (2 ^ (p * (L / (p + 1)))))) else (if a4 = (0 : Int32) then (if L / (p + 1) = 1 then some (lN 1) else some (lN (2 ^ (p * (L / (p + 1) - 1)) + 1))) else some (lN 4611686018427387904))) else some (lN 0))) else some (lN 0)) := by
    intro a4
    rw [e, q_i1, nI_add, q_jdvI (by omega) (by omega), q_jdvI (by omega) (by omega), q_rem (by omega) (by omega) (by omega), q_div (by omega) (by omega) (by omega), q_i0, q_l0, q_l1, q_i61, q_lM]
    have hmle : L % (p + 1) ≤ L := Nat.mod_le _ _
    generalize L % (p + 1) = r at hdm hmod hmle
    generalize L / (p + 1) = g at hdm hg hpg
    by_cases c : r = 0
    · rw [if_pos (by rw [c]), if_pos c]
      by_cases c1 : g = 0
      · rw [if_pos ((q_lt (by omega) (by omega)).mpr (by omega)), if_pos c1]
      · rw [if_neg (fun h9 => by have := (q_lt (by omega) (by omega)).mp h9; omega), if_neg c1, q_sub (by omega), pk_mul, pk_mul]
        have hm2 : p * (g - 1) ≤ p * g := Nat.mul_le_mul_left p (by omega)
        by_cases c2 : p * (g - 1) ≤ 61
        · rw [if_pos ((q_le (by omega) (by omega)).mpr c2), if_pos c2, q_lshl 1 (show p * (g - 1) < 64 by omega), Nat.one_mul, lN_add]
          have hx : (if nI g = nI 1 then some (lN 1) else some (lN (2 ^ (p * (g - 1)) + 1))) = (if g = 1 then some (lN 1) else some (lN (2 ^ (p * (g - 1)) + 1))) := by
            by_cases c4 : g = 1
            · rw [if_pos (by rw [c4]), if_pos c4]
            · rw [if_neg (fun h9 => c4 ((q_eq (by omega) (by omega)).mp h9)), if_neg c4]
          rw [hx]
          by_cases c3 : p * g ≤ 61
          · rw [if_pos ((q_le (by omega) (by omega)).mpr c3), if_pos c3, q_lshl 1 (by omega), Nat.one_mul]
          · rw [if_neg (fun h9 => c3 ((q_le (by omega) (by omega)).mp h9)), if_neg c3]
        · rw [if_neg (fun h9 => c2 ((q_le (by omega) (by omega)).mp h9)), if_neg c2]
    · rw [if_neg (fun h9 => c ((q_eq (by omega) (by omega)).mp h9)), if_neg c]
  unfold q_ed
  rw [q_T7, q_T7, e, e, show L + 1 - 1 = L by omega]
  by_cases c : L % (p + 1) = 0
  · rw [if_pos c, if_pos c]
    by_cases c1 : L / (p + 1) = 0
    · have hL0 : L = 0 := by
        rw [c1, c] at hdm
        omega
      rw [if_pos c1, if_pos c1, if_pos c1, if_pos (by rw [hL0]; exact Nat.zero_div _)]
      exact ⟨fun h9 => by omega, fun _ => rfl⟩
    · have hQ : (L - 1) / (p + 1) = L / (p + 1) - 1 := by
        obtain ⟨g, hgg⟩ : ∃ g, L / (p + 1) = g + 1 := Nat.exists_eq_succ_of_ne_zero c1
        rw [hgg, c] at hdm
        rw [hgg]
        refine Nat.div_eq_of_lt_le ?_ ?_
        · rw [Nat.mul_succ] at hdm
          rw [Nat.mul_comm]
          show (p + 1) * g ≤ L - 1
          omega
        · rw [Nat.mul_comm]
          show L - 1 < (p + 1) * (g + 1 - 1 + 1)
          rw [show g + 1 - 1 + 1 = g + 1 by omega]
          have : 1 * 1 ≤ (p + 1) * (g + 1) := Nat.mul_le_mul (by omega) (by omega)
          omega
      rw [if_neg c1, if_neg c1, if_neg c1, hQ]
      generalize L / (p + 1) = g at hpg c1 ⊢
      have hm2 : p * (g - 1) ≤ p * g := Nat.mul_le_mul_left p (by omega)
      have hpl : 2 ^ (p * (g - 1)) < 2 ^ (p * g) := Nat.pow_lt_pow_right (by decide) (Nat.mul_lt_mul_of_pos_left (by omega) (by omega))
      rw [Nat.mul_comm (g - 1) p, Nat.mul_comm g p]
      by_cases c2 : p * (g - 1) ≤ 61
      · have hb : 2 ^ (p * (g - 1)) ≤ 2 ^ 61 := Nat.pow_le_pow_right (by decide) c2
        rw [if_pos c2, if_pos c2, if_pos (show nI 0 = (0 : Int32) from rfl), if_pos (show p * (g - 1) < 62 by omega)]
        have hp0 := Nat.two_pow_pos (p * g)
        by_cases c4 : g = 1
        · rw [if_pos c4, if_pos (show g - 1 = 0 by omega)]
          by_cases c3 : p * g ≤ 61
          · rw [if_pos c3, if_pos c3, if_neg (show ¬ nI 1 = (0 : Int32) by decide), if_pos (show p * g < 62 by omega)]
            exact ⟨fun _ => ⟨rfl, rfl⟩, fun h9 => by omega⟩
          · rw [if_neg c3, if_neg c3, if_neg (show ¬ nI 1 = (0 : Int32) by decide), if_neg (show ¬ p * g < 62 by omega)]
            exact ⟨fun _ => ⟨rfl, rfl⟩, fun h9 => by omega⟩
        · rw [if_neg c4, if_neg (show ¬ g - 1 = 0 by omega)]
          by_cases c3 : p * g ≤ 61
          · rw [if_pos c3, if_pos c3, if_neg (show ¬ nI 1 = (0 : Int32) by decide), if_pos (show p * g < 62 by omega)]
            exact ⟨fun _ => ⟨rfl, rfl⟩, fun h9 => by omega⟩
          · rw [if_neg c3, if_neg c3, if_neg (show ¬ nI 1 = (0 : Int32) by decide), if_neg (show ¬ p * g < 62 by omega)]
            exact ⟨fun _ => ⟨rfl, rfl⟩, fun h9 => by omega⟩
      · have g1 : ¬ g - 1 = 0 := fun h9 => c2 (by rw [h9]; omega)
        rw [if_neg c2, if_neg c2, if_neg g1, if_neg (show ¬ p * (g - 1) < 62 by omega), if_neg (show ¬ p * g < 62 by omega)]
        exact ⟨fun h9 => by omega, fun _ => rfl⟩
  · have hQ : (L - 1) / (p + 1) = L / (p + 1) := by
      refine Nat.div_eq_of_lt_le ?_ ?_
      · rw [Nat.mul_comm]
        omega
      · rw [Nat.mul_comm, Nat.mul_succ]
        omega
    rw [if_neg c, if_neg c, hQ]
    exact ⟨fun h9 => by omega, fun _ => rfl⟩
