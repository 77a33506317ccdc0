/-! Codewords as rows of bits; class and reference lay the same ones. Kinds 0, 1, 2, 5, 6. -/
theorem q_ap_ext {f g g' : Nat → Nat} {n l : Nat} (h : ∀ i, i < l → g i = g' i) : q_ap f n g l = q_ap f n g' l := by
  funext i
  unfold q_ap
  by_cases h1 : i < n
  · rw [if_pos h1, if_pos h1]
  · rw [if_neg h1, if_neg h1]
    by_cases h2 : i < n + l
    · rw [if_pos h2, if_pos h2, h _ (by omega)]
    · rw [if_neg h2, if_neg h2]
theorem q_ap_cat (f g h : Nat → Nat) (n l l' : Nat) : q_ap (q_ap f n g l) (n + l) h l' = q_ap f n (q_cat g l h) (l + l') := by
  funext i
  unfold q_ap q_cat
  by_cases h1 : i < n
  · rw [if_pos (by omega), if_pos h1, if_pos h1]
  · rw [if_neg h1]
    by_cases h2 : i < n + l
    · rw [if_pos h2, if_neg h1, if_pos h2, if_pos (by omega), if_pos (by omega)]
    · rw [if_neg h2]
      by_cases h3 : i < n + l + l'
      · rw [if_neg h1, if_pos h3, if_pos (by omega), if_neg (by omega), show i - (n + l) = i - n - l by omega]
      · rw [if_neg h1, if_neg h3, if_neg (by omega)]
theorem q_appendGamma {w : Nat → Int64} {f : Nat → Nat} {n v : Nat} (h : q_row w f n) (h0 : 0 < v) (hv : v < 9223372036854775808) (hl : n + (2 * q_bl v - 1) ≤ 4096) : ∃ w', j_X1_appendGamma w (nI n) (lN v) = some (w', nI (n + (2 * q_bl v - 1))) ∧ q_row w' (q_ap f n (q_ga v) (2 * q_bl v - 1)) (n + (2 * q_bl v - 1)) := by
  have hb : q_bl v ≤ 63 := q_bl_le.mpr hv
  have hb0 := q_bl_pos h0
  obtain ⟨w1, e1, r1⟩ := q_appendBits (v := 0) (width := q_bl v - 1) h (by omega) (by omega) (by omega)
  obtain ⟨w2, e2, r2⟩ := q_appendBits (v := v) (width := q_bl v) r1 (by omega) (by omega) (by omega)
  rw [q_ap_cat] at r2
  have e4 : q_ap f n (q_cat (q_ms 0 (q_bl v - 1)) (q_bl v - 1) (q_ms v (q_bl v))) (q_bl v - 1 + q_bl v) = q_ap f n (q_ga v) (q_bl v - 1 + q_bl v) := q_ap_ext (fun i hi => by
    unfold q_cat q_ga q_ms
    by_cases d : i < q_bl v - 1
    · rw [if_pos d, if_pos d]
      simp
    · rw [if_neg d, if_neg d, show q_bl v - 1 - (i - (q_bl v - 1)) = 2 * q_bl v - 2 - i by omega])
  rw [e4, show q_bl v - 1 + q_bl v = 2 * q_bl v - 1 by omega, show n + (q_bl v - 1) + q_bl v = n + (2 * q_bl v - 1) by omega] at r2
  refine ⟨w2, ?_, r2⟩
  unfold j_X1_appendGamma
  have e0 : j_X0_appendBits w (nI n) (0 : Int64) (nI (q_bl v) - (1 : Int32)) = some (w1, nI (n + (q_bl v - 1))) := by
    rw [show (1 : Int32) = nI 1 from rfl, q_sub (by omega)]
    exact e1
  simp only [q_bitLength hv, Option.bind_some, e0, e2]
  rw [show n + (q_bl v - 1) + q_bl v = n + (2 * q_bl v - 1) by omega]
/-- the part of kind 5 behind the quotient -/
def q_tr (p n : Nat) : Nat → Nat := if (n - 1) % p < 2 ^ q_bl (p - 1) - p then q_ms ((n - 1) % p) (q_bl (p - 1) - 1) else q_ms ((n - 1) % p + (2 ^ q_bl (p - 1) - p)) (q_bl (p - 1))
theorem q_c0 {p n : Nat} (h1 : 1 ≤ p) (c : (n - 1) % p < 2 ^ q_bl (p - 1) - p) : 0 < q_bl (p - 1) := by
  rcases Nat.eq_zero_or_pos (q_bl (p - 1)) with e | e
  · rw [e] at c
    simp only [Nat.pow_zero] at c
    omega
  · exact e
theorem q_appendGolomb {w : Nat → Int64} {f : Nat → Nat} {m p n : Nat} (h : q_row w f m) (h1 : 1 ≤ p) (h2 : p ≤ 1000000) (hn : q_num n) (hl : m + q_gl p n ≤ 4096) : ∃ w', j_X1_appendGolomb w (nI m) (nI p) (lN n) = some (w', nI (m + q_gl p n)) ∧ q_row w' (q_ap f m (q_cat (q_un1 ((n - 1) / p)) ((n - 1) / p + 1) (q_tr p n)) (q_gl p n)) (m + q_gl p n) := by
  obtain ⟨n1, n2⟩ := id hn
  have hc : q_bl (p - 1) ≤ 20 := q_bl_le.mpr (by omega)
  have hpw : 2 ^ q_bl (p - 1) ≤ 2 ^ 20 := Nat.pow_le_pow_right (by decide) hc
  have hm : (n - 1) % p < p := Nat.mod_lt _ (by omega)
  have hd : (n - 1) / p ≤ n - 1 := Nat.div_le_self _ _
  have hup := q_c_up h1
  have hq : (n - 1) / p + 1 ≤ q_gl p n := by unfold q_gl; omega
  obtain ⟨w1, e1, r1⟩ := q_appendOnes (m := (n - 1) / p) h (by omega)
  have ea : (lN n - (1 : Int64)) / lN p = lN ((n - 1) / p) := by
    rw [show (1 : Int64) = lN 1 from rfl, q_lsub n1, q_ldiv (by omega) (by omega) (by omega)]
  have eb : lN n - (1 : Int64) - lN ((n - 1) / p) * lN p = lN ((n - 1) % p) := by
    rw [← ea, show (1 : Int64) = lN 1 from rfl, q_lsub n1, q_lrem (by omega) (by omega) (by omega)]
  unfold j_X1_appendGolomb
  rw [q_i2l (by omega), q_jdvJ (by omega) (by omega)]
  by_cases c : (n - 1) % p < 2 ^ q_bl (p - 1) - p
  · have hc0 := q_c0 h1 c
    have hlen : q_gl p n = (n - 1) / p + 1 + (q_bl (p - 1) - 1) := by unfold q_gl; rw [if_pos c]
    have ht : q_tr p n = q_ms ((n - 1) % p) (q_bl (p - 1) - 1) := by unfold q_tr; rw [if_pos c]
    obtain ⟨w2, e2, r2⟩ := q_appendBits (v := (n - 1) % p) (width := q_bl (p - 1) - 1) r1 (by omega) (by omega) (by omega)
    rw [q_ap_cat] at r2
    rw [ht, hlen]
    refine ⟨w2, ?_, by rw [show m + ((n - 1) / p + 1 + (q_bl (p - 1) - 1)) = m + ((n - 1) / p + 1) + (q_bl (p - 1) - 1) by omega]; exact r2⟩
    have ec : ¬ lN (2 ^ q_bl (p - 1) - p) ≤ lN ((n - 1) % p) := fun h9 => by have := (q_lle (by omega) (by omega)).mp h9; omega
    have ed : nI (q_bl (p - 1)) - (1 : Int32) = nI (q_bl (p - 1) - 1) := by rw [show (1 : Int32) = nI 1 from rfl, q_sub (by omega)]
    simp only [ea, eb, e1, Option.bind_some, q_jdvJ (show 0 < p by omega) (show p < 9223372036854775808 by omega), q_golombWidth h1 h2, q_golombShort h1 h2, if_neg ec, ed, e2]
    rw [show m + ((n - 1) / p + 1) + (q_bl (p - 1) - 1) = m + ((n - 1) / p + 1 + (q_bl (p - 1) - 1)) by omega]
  · have hlen : q_gl p n = (n - 1) / p + 1 + q_bl (p - 1) := by unfold q_gl; rw [if_neg c]
    have ht : q_tr p n = q_ms ((n - 1) % p + (2 ^ q_bl (p - 1) - p)) (q_bl (p - 1)) := by unfold q_tr; rw [if_neg c]
    obtain ⟨w2, e2, r2⟩ := q_appendBits (v := (n - 1) % p + (2 ^ q_bl (p - 1) - p)) (width := q_bl (p - 1)) r1 (by omega) (by omega) (by omega)
    rw [q_ap_cat] at r2
    rw [ht, hlen]
    refine ⟨w2, ?_, by rw [show m + ((n - 1) / p + 1 + q_bl (p - 1)) = m + ((n - 1) / p + 1) + q_bl (p - 1) by omega]; exact r2⟩
    have ec : lN (2 ^ q_bl (p - 1) - p) ≤ lN ((n - 1) % p) := (q_lle (by omega) (by omega)).mpr (by omega)
    simp only [ea, eb, e1, Option.bind_some, q_jdvJ (show 0 < p by omega) (show p < 9223372036854775808 by omega), q_golombWidth h1 h2, q_golombShort h1 h2, if_pos ec, lN_add, e2]
    rw [show m + ((n - 1) / p + 1) + q_bl (p - 1) = m + ((n - 1) / p + 1 + q_bl (p - 1)) by omega]
theorem q_byQuotient {wd : Nat → Int32} {p n : Nat} (h1 : 1 ≤ p) (h2 : p ≤ 1000000) (hn : q_num n) (hl : q_gl p n ≤ 4096) : ∃ wd', j_X2_byQuotient wd (nI 0) (nI p) (lN n) = some (wd', nI (q_gl p n)) ∧ q_wo wd' (q_cat (q_un1 ((n - 1) / p)) ((n - 1) / p + 1) (q_tr p n)) (q_gl p n) := by
  obtain ⟨n1, n2⟩ := id hn
  have hc : q_bl (p - 1) ≤ 20 := q_bl_le.mpr (by omega)
  have hpw : 2 ^ q_bl (p - 1) ≤ 2 ^ 20 := Nat.pow_le_pow_right (by decide) hc
  have hm : (n - 1) % p < p := Nat.mod_lt _ (by omega)
  have hd : (n - 1) / p ≤ n - 1 := Nat.div_le_self _ _
  have hup := q_c_up h1
  have hq : (n - 1) / p + 1 ≤ q_gl p n := by unfold q_gl; omega
  have w0 : q_wo wd (fun _ => 0) 0 := fun i hi => by omega
  obtain ⟨w1, e1, r1⟩ := q_onesM (m := (n - 1) / p) (l := 0) (by omega) w0
  have r1 : q_wo w1 (q_un1 ((n - 1) / p)) (0 + ((n - 1) / p + 1)) := r1.ext (fun i hi => by unfold q_cat; rw [if_neg (by omega)]; rfl)
  have ea : (lN n - (1 : Int64)) / lN p = lN ((n - 1) / p) := by
    rw [show (1 : Int64) = lN 1 from rfl, q_lsub n1, q_ldiv (by omega) (by omega) (by omega)]
  have eb : lN n - (1 : Int64) - lN ((n - 1) / p) * lN p = lN ((n - 1) % p) := by
    rw [← ea, show (1 : Int64) = lN 1 from rfl, q_lsub n1, q_lrem (by omega) (by omega) (by omega)]
  have ef : ((1 : Int64) <<< ((nI (q_bl (p - 1))).toInt64 &&& 63)) - lN p = lN (2 ^ q_bl (p - 1) - p) := by
    rw [show (1 : Int64) = lN 1 from rfl, q_lshl 1 (by omega), Nat.one_mul, q_lsub hup]
  unfold j_X2_byQuotient
  rw [q_i2l (by omega), q_jdvJ (by omega) (by omega)]
  by_cases c : (n - 1) % p < 2 ^ q_bl (p - 1) - p
  · have hc0 := q_c0 h1 c
    have hlen : q_gl p n = (n - 1) / p + 1 + (q_bl (p - 1) - 1) := by unfold q_gl; rw [if_pos c]
    have ht : q_tr p n = q_ms ((n - 1) % p) (q_bl (p - 1) - 1) := by unfold q_tr; rw [if_pos c]
    obtain ⟨w2, e2, r2⟩ := q_low (v := (n - 1) % p) (k := q_bl (p - 1) - 1) (by omega) (by omega) (by omega) r1
    rw [ht, hlen]
    refine ⟨w2, ?_, by rw [show (n - 1) / p + 1 + (q_bl (p - 1) - 1) = 0 + ((n - 1) / p + 1) + (q_bl (p - 1) - 1) by omega]; exact r2.ext (fun i hi => by rw [Nat.zero_add])⟩
    have ec : ¬ lN (2 ^ q_bl (p - 1) - p) ≤ lN ((n - 1) % p) := fun h9 => by have := (q_lle (by omega) (by omega)).mp h9; omega
    have ed : nI (q_bl (p - 1)) - (1 : Int32) = nI (q_bl (p - 1) - 1) := by rw [show (1 : Int32) = nI 1 from rfl, q_sub (by omega)]
    simp only [ea, eb, ef, e1, Option.bind_some, q_jdvJ (show 0 < p by omega) (show p < 9223372036854775808 by omega), q_powerFor h1 h2, if_neg ec, ed, e2]
    rw [show 0 + ((n - 1) / p + 1) + (q_bl (p - 1) - 1) = (n - 1) / p + 1 + (q_bl (p - 1) - 1) by omega]
  · have hlen : q_gl p n = (n - 1) / p + 1 + q_bl (p - 1) := by unfold q_gl; rw [if_neg c]
    have ht : q_tr p n = q_ms ((n - 1) % p + (2 ^ q_bl (p - 1) - p)) (q_bl (p - 1)) := by unfold q_tr; rw [if_neg c]
    obtain ⟨w2, e2, r2⟩ := q_low (v := (n - 1) % p + (2 ^ q_bl (p - 1) - p)) (k := q_bl (p - 1)) (by omega) (by omega) (by omega) r1
    rw [ht, hlen]
    refine ⟨w2, ?_, by rw [show (n - 1) / p + 1 + q_bl (p - 1) = 0 + ((n - 1) / p + 1) + q_bl (p - 1) by omega]; exact r2.ext (fun i hi => by rw [Nat.zero_add])⟩
    have ec : lN (2 ^ q_bl (p - 1) - p) ≤ lN ((n - 1) % p) := (q_lle (by omega) (by omega)).mpr (by omega)
    simp only [ea, eb, ef, e1, Option.bind_some, q_jdvJ (show 0 < p by omega) (show p < 9223372036854775808 by omega), q_powerFor h1 h2, if_pos ec, lN_add, e2]
    rw [show 0 + ((n - 1) / p + 1) + q_bl (p - 1) = (n - 1) / p + 1 + q_bl (p - 1) by omega]
