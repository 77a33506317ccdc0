/-! The length of a codeword, for all kinds. -/
def q_gl (p n : Nat) : Nat := (n - 1) / p + 1 + (if (n - 1) % p < 2 ^ q_bl (p - 1) - p then q_bl (p - 1) - 1 else q_bl (p - 1))
def q_gr (p n : Nat) : Nat := if 1 < (q_bl (n - 1) + p - 1) / p then (q_bl (n - 1) + p - 1) / p else 1
def q_len (k p n : Nat) : Nat := if k = 0 then n else if k = 1 then 2 * q_bl n - 1 else if k = 2 then 2 * q_bl (q_bl n) - 1 + q_bl n - 1 else if k = 3 then q_om n else if k = 4 then q_fi n + 2 else if k = 5 then q_gl p n else if k = 6 then 2 * q_bl ((n - 1) / 2 ^ p + 1) - 1 + p else q_gr p n * (p + 1)
def q_ok (k p : Nat) : Prop := k ≤ 7 ∧ (k < 5 → p = 0) ∧ (k = 5 → 1 ≤ p ∧ p ≤ 1000000) ∧ (k = 6 → p ≤ 40) ∧ (k = 7 → 1 ≤ p ∧ p ≤ 16)
def q_num (n : Nat) : Prop := 1 ≤ n ∧ n ≤ 4611686018427387904
theorem q_c_up {p : Nat} (h1 : 1 ≤ p) : p ≤ 2 ^ q_bl (p - 1) := by
  have := q_bl_lt (p - 1)
  omega
theorem q_om_le {n : Nat} (h : n < 9223372036854775808) : q_om n ≤ 253 := q_omf_le 4 n h
theorem q_golombWidth {p : Nat} (h1 : 1 ≤ p) (h2 : p ≤ 1000000) : j_X1_golombWidth (nI p) = some (nI (q_bl (p - 1))) := by
  unfold j_X1_golombWidth
  rw [show (1 : Int32) = nI 1 from rfl, q_sub h1, q_i2l (by omega), q_bitLength (by omega)]
  rfl
theorem q_golombShort {p : Nat} (h1 : 1 ≤ p) (h2 : p ≤ 1000000) : j_X1_golombShortRests (nI p) (nI (q_bl (p - 1))) = some (lN (2 ^ q_bl (p - 1) - p)) := by
  unfold j_X1_golombShortRests
  have hb : q_bl (p - 1) ≤ 20 := q_bl_le.mpr (by omega)
  rw [show (1 : Int64) = lN 1 from rfl, q_lshl 1 (by omega), q_i2l (by omega), Nat.one_mul, q_lsub (q_c_up h1)]
theorem q_golombLength {p n : Nat} (h1 : 1 ≤ p) (h2 : p ≤ 1000000) (hn : q_num n) : j_X1_golombLength (nI p) (lN n) = some (lN (q_gl p n)) := by
  obtain ⟨n1, n2⟩ := hn
  have hb : q_bl (p - 1) ≤ 20 := q_bl_le.mpr (by omega)
  have hpw : 2 ^ q_bl (p - 1) ≤ 2 ^ 20 := Nat.pow_le_pow_right (by decide) hb
  have hm : (n - 1) % p < p := Nat.mod_lt _ (by omega)
  have hd : (n - 1) / p ≤ n - 1 := Nat.div_le_self _ _
  unfold j_X1_golombLength
  rw [q_i2l (by omega), q_jdvJ (by omega) (by omega), q_jdvJ (by omega) (by omega), q_golombWidth h1 h2]
  show (j_X1_golombShortRests (nI p) (nI (q_bl (p - 1)))).bind (fun v2 => if v2 ≤ ((lN n - lN 1) - (lN n - lN 1) / lN p * lN p) then (some (((lN n - lN 1) / lN p) + ((nI (q_bl (p - 1)) + nI 1).toInt64))) else (some (((lN n - lN 1) / lN p) + (nI (q_bl (p - 1))).toInt64))) = _
  rw [q_golombShort h1 h2]
  show (if lN (2 ^ q_bl (p - 1) - p) ≤ ((lN n - lN 1) - (lN n - lN 1) / lN p * lN p) then (some (((lN n - lN 1) / lN p) + ((nI (q_bl (p - 1)) + nI 1).toInt64))) else (some (((lN n - lN 1) / lN p) + (nI (q_bl (p - 1))).toInt64))) = _
  rw [q_lsub n1, q_lrem (by omega) (by omega) (by omega), q_ldiv (by omega) (by omega) (by omega), nI_add, q_i2l (by omega), q_i2l (by omega), lN_add, lN_add]
  unfold q_gl
  by_cases c : (n - 1) % p < 2 ^ q_bl (p - 1) - p
  · rw [if_neg (fun h9 => by have := (q_lle (by omega) (by omega)).mp h9; omega), if_pos c]
    have hc : 0 < q_bl (p - 1) := by
      rcases Nat.eq_zero_or_pos (q_bl (p - 1)) with e | e
      · rw [e] at c
        simp only [Nat.pow_zero] at c
        omega
      · exact e
    congr 2
    omega
  · rw [if_pos ((q_lle (by omega) (by omega)).mpr (by omega)), if_neg c]
    congr 2
    omega
theorem q_groupsOf {p n : Nat} (h1 : 1 ≤ p) (h2 : p ≤ 16) (hn : q_num n) : j_X1_groupsOf (nI p) (lN n) = some (nI (q_gr p n)) := by
  obtain ⟨n1, n2⟩ := hn
  have hb : q_bl (n - 1) ≤ 62 := q_bl_le.mpr (by omega)
  unfold j_X1_groupsOf
  rw [show (1 : Int64) = lN 1 from rfl, q_lsub n1, q_bitLength (by omega)]
  show jdvI (nI p) (some (if nI 1 < ((nI (q_bl (n - 1)) + nI p) - nI 1) / nI p then ((nI (q_bl (n - 1)) + nI p) - nI 1) / nI p else nI 1)) = _
  rw [q_jdvI (by omega) (by omega), nI_add, q_sub (by omega), q_div (by omega) (by omega) (by omega)]
  unfold q_gr
  have hd : (q_bl (n - 1) + p - 1) / p ≤ q_bl (n - 1) + p - 1 := Nat.div_le_self _ _
  by_cases c : 1 < (q_bl (n - 1) + p - 1) / p
  · rw [if_pos ((q_lt (by omega) (by omega)).mpr c), if_pos c]
  · rw [if_neg (fun h9 => c ((q_lt (by omega) (by omega)).mp h9)), if_neg c]
theorem q_gr_le {p n : Nat} (h1 : 1 ≤ p) (hn : q_num n) : q_gr p n ≤ 78 ∧ 1 ≤ q_gr p n := by
  obtain ⟨n1, n2⟩ := hn
  have hb : q_bl (n - 1) ≤ 62 := q_bl_le.mpr (by omega)
  unfold q_gr
  have hd : (q_bl (n - 1) + p - 1) / p ≤ 62 := by
    rw [Nat.div_le_iff_le_mul_add_pred (by omega)]
    have : 62 ≤ p * 62 := Nat.le_mul_of_pos_left 62 (by omega)
    omega
  split <;> omega
theorem q_lenC {fb : Nat → Int64} (hfb : ∀ i, i < 89 → fb i = lN (q_F i)) {k p n : Nat} (ho : q_ok k p) (hn : q_num n) : j_X1_codewordLength fb (nI k) (nI p) (lN n) = some (lN (q_len k p n)) := by
  obtain ⟨n1, n2⟩ := id hn
  obtain ⟨k7, o1, o2, o3, o4⟩ := ho
  have hb : q_bl n ≤ 63 := q_bl_le.mpr (by omega)
  have hb0 : 0 < q_bl n := q_bl_pos (by omega)
  have hbb : q_bl (q_bl n) ≤ 6 := q_bl_le.mpr (by omega)
  have hbb0 : 0 < q_bl (q_bl n) := q_bl_pos hb0
  unfold j_X1_codewordLength
  rcases (show k = 0 ∨ k = 1 ∨ k = 2 ∨ k = 3 ∨ k = 4 ∨ k = 5 ∨ k = 6 ∨ k = 7 by omega) with rfl | rfl | rfl | rfl | rfl | rfl | rfl | rfl
  · rw [if_pos (by decide)]; rfl
  · rw [if_neg (by decide), if_pos (by decide), q_gammaLength (by omega) (by omega)]
    show some ((nI (2 * q_bl n - 1)).toInt64) = _
    rw [q_i2l (by omega)]; rfl
  · rw [if_neg (by decide), if_neg (by decide), if_pos (by decide), q_bitLength (by omega)]
    show (j_X1_gammaLength (nI (q_bl n)).toInt64).bind (fun v4 => some (((v4 + nI (q_bl n)) - nI 1).toInt64)) = _
    rw [q_i2l (by omega), q_gammaLength hb0 (by omega)]
    show some (((nI (2 * q_bl (q_bl n) - 1) + nI (q_bl n)) - nI 1).toInt64) = _
    rw [nI_add, q_sub (by omega), q_i2l (by omega)]; rfl
  · rw [if_neg (by decide), if_neg (by decide), if_neg (by decide), if_pos (by decide), q_omegaLength (by omega) (by omega)]
    have := q_om_le (n := n) (by omega)
    show some ((nI (q_om n)).toInt64) = _
    rw [q_i2l (by omega)]; rfl
  · rw [if_neg (by decide), if_neg (by decide), if_neg (by decide), if_neg (by decide), if_pos (by decide), q_fibLength hfb (by omega) n2]
    have := q_fi_le n
    show some ((nI (q_fi n + 2)).toInt64) = _
    rw [q_i2l (by omega)]; rfl
  · rw [if_neg (by decide), if_neg (by decide), if_neg (by decide), if_neg (by decide), if_neg (by decide), if_pos (by decide), q_golombLength (o2 rfl).1 (o2 rfl).2 hn]
    rfl
  · rw [if_neg (by decide), if_neg (by decide), if_neg (by decide), if_neg (by decide), if_neg (by decide), if_neg (by decide), if_pos (by decide)]
    have hp := o3 rfl
    have hd : (n - 1) / 2 ^ p ≤ n - 1 := Nat.div_le_self _ _
    have hb6 : q_bl ((n - 1) / 2 ^ p + 1) ≤ 63 := q_bl_le.mpr (by omega)
    have hb60 : 0 < q_bl ((n - 1) / 2 ^ p + 1) := q_bl_pos (Nat.succ_pos _)
    rw [show (1 : Int64) = lN 1 from rfl, q_lsub n1, q_lshr (by omega) (by omega), lN_add, q_gammaLength (Nat.succ_pos _) (by omega)]
    show some ((nI (2 * q_bl ((n - 1) / 2 ^ p + 1) - 1) + nI p).toInt64) = _
    rw [nI_add, q_i2l (by omega)]; rfl
  · rw [if_neg (by decide), if_neg (by decide), if_neg (by decide), if_neg (by decide), if_neg (by decide), if_neg (by decide), if_neg (by decide), q_groupsOf (o4 rfl).1 (o4 rfl).2 hn]
    have hg := q_gr_le (o4 rfl).1 hn
    have hp := (o4 rfl).2
    show some ((nI (q_gr p n)).toInt64 * (nI p + nI 1).toInt64) = _
    rw [nI_add, q_i2l (by omega), q_i2l (by omega), lN_mul]; rfl
theorem q_lenM {sm : Nat → Int64} (hsm : ∀ i, 1 ≤ i → i < 92 → sm i = lN (q_F (i - 1))) {k p n : Nat} (ho : q_ok k p) (hn : q_num n) : j_X2_lengthOf sm (nI k) (nI p) (lN n) = some (lN (q_len k p n)) := by
  obtain ⟨n1, n2⟩ := id hn
  obtain ⟨k7, o1, o2, o3, o4⟩ := ho
  have hb : q_bl n ≤ 63 := q_bl_le.mpr (by omega)
  have hb0 : 0 < q_bl n := q_bl_pos (by omega)
  have hbb : q_bl (q_bl n) ≤ 6 := q_bl_le.mpr (by omega)
  have hbb0 : 0 < q_bl (q_bl n) := q_bl_pos hb0
  unfold j_X2_lengthOf
  rw [q_bitsOf (by omega), Option.bind_some]
  rcases (show k = 0 ∨ k = 1 ∨ k = 2 ∨ k = 3 ∨ k = 4 ∨ k = 5 ∨ k = 6 ∨ k = 7 by omega) with rfl | rfl | rfl | rfl | rfl | rfl | rfl | rfl
  · rw [if_pos (by decide)]; rfl
  · rw [if_neg (by decide), if_pos (by decide)]
    show some (lN 2 * (nI (q_bl n)).toInt64 - lN 1) = _
    rw [q_i2l (by omega), lN_mul, q_lsub (by omega)]; rfl
  · rw [if_neg (by decide), if_neg (by decide), if_pos (by decide), q_i2l (by omega), q_bitsOf (by omega)]
    show some (((lN 2 * (nI (q_bl (q_bl n))).toInt64 - lN 1) + lN (q_bl n)) - lN 1) = _
    rw [q_i2l (by omega), lN_mul, q_lsub (by omega), lN_add, q_lsub (by omega)]; rfl
  · rw [if_neg (by decide), if_neg (by decide), if_neg (by decide), if_pos (by decide), q_byChain (by omega) (by omega)]
    rfl
  · rw [if_neg (by decide), if_neg (by decide), if_neg (by decide), if_neg (by decide), if_pos (by decide), q_greatest hsm (by omega) n2]
    have := q_fi_le n
    show some ((nI (q_fi n + 1)).toInt64 + lN 1) = _
    rw [q_i2l (by omega), lN_add]; rfl
  · rw [if_neg (by decide), if_neg (by decide), if_neg (by decide), if_neg (by decide), if_neg (by decide), if_pos (by decide)]
    obtain ⟨h1, h2⟩ := o2 rfl
    have hc : q_bl (p - 1) ≤ 20 := q_bl_le.mpr (by omega)
    have hpw : 2 ^ q_bl (p - 1) ≤ 2 ^ 20 := Nat.pow_le_pow_right (by decide) hc
    have hm : (n - 1) % p < p := Nat.mod_lt _ (by omega)
    have hd : (n - 1) / p ≤ n - 1 := Nat.div_le_self _ _
    have hup := q_c_up h1
    rw [q_i2l (by omega), q_jdvJ (by omega) (by omega), q_powerFor h1 h2, Option.bind_some, q_jdvJ (by omega) (by omega)]
    show (if ((lN 1 <<< ((nI (q_bl (p - 1))).toInt64 &&& 63)) - lN p) ≤ ((lN n - lN 1) - (lN n - lN 1) / lN p * lN p) then (some ((((lN n - lN 1) / lN p) + lN 1) + (nI (q_bl (p - 1))).toInt64)) else (some ((((lN n - lN 1) / lN p) + lN 1) + ((nI (q_bl (p - 1)) - nI 1).toInt64)))) = some (lN (q_gl p n))
    rw [q_lshl 1 (by omega), Nat.one_mul, q_lsub hup, q_lsub n1, q_lrem (by omega) (by omega) (by omega), q_ldiv (by omega) (by omega) (by omega), lN_add]
    unfold q_gl
    by_cases c : (n - 1) % p < 2 ^ q_bl (p - 1) - p
    · have hc0 : 0 < q_bl (p - 1) := by
        rcases Nat.eq_zero_or_pos (q_bl (p - 1)) with e | e
        · rw [e] at c
          simp only [Nat.pow_zero] at c
          omega
        · exact e
      rw [if_neg (fun h9 => by have := (q_lle (by omega) (by omega)).mp h9; omega), if_pos c, q_sub (by omega), q_i2l (by omega), lN_add]
    · rw [if_pos ((q_lle (by omega) (by omega)).mpr (by omega)), if_neg c, q_i2l (by omega), lN_add]
  · rw [if_neg (by decide), if_neg (by decide), if_neg (by decide), if_neg (by decide), if_neg (by decide), if_neg (by decide), if_pos (by decide)]
    have hp := o3 rfl
    have hd : (n - 1) / 2 ^ p ≤ n - 1 := Nat.div_le_self _ _
    have hb6 : q_bl ((n - 1) / 2 ^ p + 1) ≤ 63 := q_bl_le.mpr (by omega)
    have hb60 : 0 < q_bl ((n - 1) / 2 ^ p + 1) := q_bl_pos (Nat.succ_pos _)
    rw [show (1 : Int64) = lN 1 from rfl, q_lsub n1, q_lshr (by omega) (by omega), lN_add, q_bitsOf (by omega)]
    show some ((lN 2 * (nI (q_bl ((n - 1) / 2 ^ p + 1))).toInt64 - lN 1) + (nI p).toInt64) = _
    rw [q_i2l (by omega), q_i2l (by omega), lN_mul, q_lsub (by omega), lN_add]; rfl
  · rw [if_neg (by decide), if_neg (by decide), if_neg (by decide), if_neg (by decide), if_neg (by decide), if_neg (by decide), if_neg (by decide)]
    obtain ⟨h1, h2⟩ := o4 rfl
    have hg := q_gr_le h1 hn
    have hb1 : q_bl (n - 1) ≤ 62 := q_bl_le.mpr (by omega)
    have hd : (q_bl (n - 1) + p - 1) / p ≤ q_bl (n - 1) + p - 1 := Nat.div_le_self _ _
    rw [show (1 : Int64) = lN 1 from rfl, q_lsub n1, q_bitsOf (by omega), Option.bind_some, q_jdvI (by omega) (by omega)]
    show (if lN 1 ≤ ((((nI (q_bl (n - 1)) + nI p) - nI 1) / nI p).toInt64) then (some (((((nI (q_bl (n - 1)) + nI p) - nI 1) / nI p).toInt64) * ((nI p + nI 1).toInt64))) else (some (lN 1 * ((nI p + nI 1).toInt64)))) = some (lN (q_gr p n * (p + 1)))
    rw [nI_add, nI_add, q_sub (by omega), q_div (by omega) (by omega) (by omega), q_i2l (by omega), q_i2l (by omega), lN_mul, lN_mul]
    unfold q_gr
    by_cases c : 1 < (q_bl (n - 1) + p - 1) / p
    · rw [if_pos ((q_lle (by omega) (by omega)).mpr (by omega)), if_pos c]
    · rw [if_neg c]
      by_cases c2 : 1 ≤ (q_bl (n - 1) + p - 1) / p
      · rw [if_pos ((q_lle (by omega) (by omega)).mpr c2), show (q_bl (n - 1) + p - 1) / p = 1 by omega]
      · rw [if_neg (fun h9 => c2 ((q_lle (by omega) (by omega)).mp h9))]
