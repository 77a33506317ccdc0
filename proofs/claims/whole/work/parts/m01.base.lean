/-! Numbers: Int32 and Int64 as nI and lN of natural numbers; rows for 'simp (disch := omega) only'. -/
theorem q_i (n : Nat) : Int32.ofNat n = nI n := rfl
theorem q_l (n : Nat) : Int64.ofNat n = lN n := rfl
theorem q_i0 : (0 : Int32) = nI 0 := rfl
theorem q_i1 : (1 : Int32) = nI 1 := rfl
theorem q_i2 : (2 : Int32) = nI 2 := rfl
theorem q_i3 : (3 : Int32) = nI 3 := rfl
theorem q_i4 : (4 : Int32) = nI 4 := rfl
theorem q_i5 : (5 : Int32) = nI 5 := rfl
theorem q_i6 : (6 : Int32) = nI 6 := rfl
theorem q_i7 : (7 : Int32) = nI 7 := rfl
theorem q_i8 : (8 : Int32) = nI 8 := rfl
theorem q_i16 : (16 : Int32) = nI 16 := rfl
theorem q_i31 : (31 : Int32) = nI 31 := rfl
theorem q_i32 : (32 : Int32) = nI 32 := rfl
theorem q_i40 : (40 : Int32) = nI 40 := rfl
theorem q_i61 : (61 : Int32) = nI 61 := rfl
theorem q_i62 : (62 : Int32) = nI 62 := rfl
theorem q_i63 : (63 : Int32) = nI 63 := rfl
theorem q_i64 : (64 : Int32) = nI 64 := rfl
theorem q_i88 : (88 : Int32) = nI 88 := rfl
theorem q_i89 : (89 : Int32) = nI 89 := rfl
theorem q_i90 : (90 : Int32) = nI 90 := rfl
theorem q_i91 : (91 : Int32) = nI 91 := rfl
theorem q_i100 : (100 : Int32) = nI 100 := rfl
theorem q_i200 : (200 : Int32) = nI 200 := rfl
theorem q_i256 : (256 : Int32) = nI 256 := rfl
theorem q_i500 : (500 : Int32) = nI 500 := rfl
theorem q_i4096 : (4096 : Int32) = nI 4096 := rfl
theorem q_i65536 : (65536 : Int32) = nI 65536 := rfl
theorem q_i1e6 : (1000000 : Int32) = nI 1000000 := rfl
theorem q_l0 : (0 : Int64) = lN 0 := rfl
theorem q_l1 : (1 : Int64) = lN 1 := rfl
theorem q_l2 : (2 : Int64) = lN 2 := rfl
theorem q_l62 : (62 : Int64) = lN 62 := rfl
theorem q_l63 : (63 : Int64) = lN 63 := rfl
theorem q_l64 : (64 : Int64) = lN 64 := rfl
theorem q_lM : (4611686018427387904 : Int64) = lN 4611686018427387904 := rfl
theorem q_lM1 : (4611686018427387905 : Int64) = lN 4611686018427387905 := rfl
theorem q_lMm : (4611686018427387903 : Int64) = lN 4611686018427387903 := rfl
theorem q_sub {a b : Nat} (h : b ≤ a) : nI a - nI b = nI (a - b) := pk_sub h
theorem q_neg {a k : Nat} (h : k ≤ a) : nI a + -nI k = nI (a - k) := by rw [← Int32.sub_eq_add_neg]; exact pk_sub h
theorem q_lt {a b : Nat} (ha : a < 2147483648) (hb : b < 2147483648) : nI a < nI b ↔ a < b := nI_ltI ha hb
theorem q_le {a b : Nat} (ha : a < 2147483648) (hb : b < 2147483648) : nI a ≤ nI b ↔ a ≤ b := nI_leI ha hb
theorem q_eq {a b : Nat} (ha : a < 2147483648) (hb : b < 2147483648) : nI a = nI b ↔ a = b := nI_eq ha hb
theorem q_div {a d : Nat} (ha : a < 2147483648) (h0 : 0 < d) (hd : d < 2147483648) : nI a / nI d = nI (a / d) := pk_div ha h0 hd
theorem q_rem {a d : Nat} (ha : a < 2147483648) (h0 : 0 < d) (hd : d < 2147483648) : nI a - nI a / nI d * nI d = nI (a % d) := pk_rem ha h0 hd
theorem q_clamp {a : Nat} (ha : a < 2147483648) : (nI a).toNatClampNeg = a := nI_clamp ha
theorem q_llt {a b : Nat} (ha : a < 9223372036854775808) (hb : b < 9223372036854775808) : lN a < lN b ↔ a < b := pk_lLT ha hb
theorem q_lle {a b : Nat} (ha : a < 9223372036854775808) (hb : b < 9223372036854775808) : lN a ≤ lN b ↔ a ≤ b := pk_lLE ha hb
theorem q_leq {a b : Nat} (ha : a < 9223372036854775808) (hb : b < 9223372036854775808) : lN a = lN b ↔ a = b := pk_lEQ ha hb
theorem q_ldiv {a d : Nat} (ha : a < 9223372036854775808) (h0 : 0 < d) (hd : d < 9223372036854775808) : lN a / lN d = lN (a / d) := pk_lDiv ha h0 hd
theorem q_lrem {a d : Nat} (ha : a < 9223372036854775808) (h0 : 0 < d) (hd : d < 9223372036854775808) : lN a - lN a / lN d * lN d = lN (a % d) := pk_lRem ha h0 hd
theorem q_lsub {a b : Nat} (h : b ≤ a) : lN a - lN b = lN (a - b) := lN_sub h
theorem q_i2l {a : Nat} (ha : a < 2147483648) : (nI a).toInt64 = lN a := nI_l ha
theorem q_jix {α : Type} {j n : Nat} {k : Option α} (h : j < n) (hn : n < 2147483648) : jix (nI j) n k = k := by
  unfold jix
  rw [if_neg (vp_in_nI h hn)]
theorem q_jdvI {α : Type} {y : Nat} {k : Option α} (h : 0 < y) (hn : y < 2147483648) : jdvI (nI y) k = k := by
  unfold jdvI
  rw [if_neg (nI_ne0 h hn)]
theorem q_jdvJ {α : Type} {y : Nat} {k : Option α} (h : 0 < y) (hn : y < 9223372036854775808) : jdvJ (lN y) k = k := by
  unfold jdvJ
  rw [if_neg]
  intro e
  have := (q_leq hn (by omega : 0 < 9223372036854775808)).mp (e : lN y = lN 0)
  omega
/-! bit lengths -/
def q_bl (n : Nat) : Nat := if n = 0 then 0 else Nat.log2 n + 1
theorem q_bl0 : q_bl 0 = 0 := rfl
theorem q_bl_le {n k : Nat} : q_bl n ≤ k ↔ n < 2 ^ k := by
  unfold q_bl
  by_cases h : n = 0
  · subst h
    simp [Nat.two_pow_pos]
  · rw [if_neg h, Nat.succ_le_iff]
    exact Nat.log2_lt h
theorem q_bl_gt {n k : Nat} : k < q_bl n ↔ 2 ^ k ≤ n := by
  have := @q_bl_le n k
  omega
theorem q_bl_lt (n : Nat) : n < 2 ^ q_bl n := q_bl_le.mp (Nat.le_refl _)
theorem q_bl_pos {n : Nat} (h : 0 < n) : 0 < q_bl n := q_bl_gt.mpr (by rw [Nat.pow_zero]; exact h)
theorem q_bl_ge {n : Nat} (h : 0 < n) : 2 ^ (q_bl n - 1) ≤ n := q_bl_gt.mp (by have := q_bl_pos h; omega)
theorem q_bl_eq {n k : Nat} (h1 : 2 ^ k ≤ n) (h2 : n < 2 ^ (k + 1)) : q_bl n = k + 1 := by
  have a := q_bl_gt.mpr h1
  have b := q_bl_le.mpr h2
  omega
theorem q_bl_mono {a b : Nat} (h : a ≤ b) : q_bl a ≤ q_bl b := q_bl_le.mpr (Nat.lt_of_le_of_lt h (q_bl_lt b))
theorem q_bl_div {n s : Nat} (h : 2 ^ s ≤ n) : q_bl n = q_bl (n / 2 ^ s) + s := by
  have hs : 0 < 2 ^ s := Nat.two_pow_pos s
  have h0 : 0 < n / 2 ^ s := Nat.div_pos h hs
  have a := q_bl_lt (n / 2 ^ s)
  have b := q_bl_ge h0
  have c := q_bl_pos h0
  have a2 : n < 2 ^ (q_bl (n / 2 ^ s)) * 2 ^ s := (Nat.div_lt_iff_lt_mul hs).mp a
  have b2 : 2 ^ (q_bl (n / 2 ^ s) - 1) * 2 ^ s ≤ n := (Nat.le_div_iff_mul_le hs).mp b
  rw [← Nat.pow_add] at a2 b2
  have e := q_bl_eq (n := n) (k := q_bl (n / 2 ^ s) - 1 + s) b2 (by rw [show q_bl (n / 2 ^ s) - 1 + s + 1 = q_bl (n / 2 ^ s) + s by omega]; exact a2)
  omega
theorem q_bl_half {n : Nat} (h : 0 < n) : q_bl n = q_bl (n / 2) + 1 := by
  by_cases h1 : n = 1
  · subst h1; rfl
  · exact q_bl_div (s := 1) (by omega)
/-! leading zeros, as the JDK counts them -/
theorem q_ush {n k : Nat} (hn : n < 4294967296) (hk : k < 32) : ((nI n).toUInt32 >>> ((nI k).toUInt32 &&& Int32.toUInt32 (nI 31))).toInt32 = nI (n / 2 ^ k) := by
  refine pk_ushrN hn (nI k) k ?_
  revert k
  decide
theorem q_bl1 : q_bl 1 = 1 := rfl
theorem q_bl23 {k : Nat} (h : 2 ≤ k) (h2 : k < 4) : q_bl k = 2 := q_bl_eq (k := 1) h h2
theorem q_nlz73 {k n : Nat} (hk : 0 < k) (hk4 : k < 4) (hn : 1 ≤ n) (hn2 : n < 64) : jS_J6_numberOfLeadingZeros_0f7a4_73 (nI k) (nI n) = some (nI (n + 1 - q_bl k)) := by
  unfold jS_J6_numberOfLeadingZeros_0f7a4_73
  simp (disch := omega) only [q_i1, q_i31, q_ush]
  rw [q_sub (by omega)]
  by_cases h : k = 1
  · subst h; rw [q_bl1]; rfl
  · rw [q_bl23 (by omega) hk4]
    congr 2
    omega
theorem q_nlz61 {k n : Nat} (hk : 0 < k) (hk4 : k < 16) (hn : 3 ≤ n) (hn2 : n < 64) : jS_J6_numberOfLeadingZeros_0f7a4_61 (nI k) (nI n) = some (nI (n + 1 - q_bl k)) := by
  unfold jS_J6_numberOfLeadingZeros_0f7a4_61
  simp (disch := omega) only [q_i4, q_i2, q_i31, q_lt, q_ush, q_neg]
  split
  · exact q_nlz73 hk (by omega) (by omega) hn2
  · rw [q_nlz73 (by omega) (by omega) (by omega) (by omega), q_bl_div (n := k) (s := 2) (by omega)]
    congr 2
    omega
theorem q_nlz48 {k n : Nat} (hk : 0 < k) (hk4 : k < 256) (hn : 7 ≤ n) (hn2 : n < 64) : jS_J6_numberOfLeadingZeros_0f7a4_48 (nI k) (nI n) = some (nI (n + 1 - q_bl k)) := by
  unfold jS_J6_numberOfLeadingZeros_0f7a4_48
  simp (disch := omega) only [q_i16, q_i4, q_i31, q_lt, q_ush, q_neg]
  split
  · exact q_nlz61 hk (by omega) (by omega) hn2
  · rw [q_nlz61 (by omega) (by omega) (by omega) (by omega), q_bl_div (n := k) (s := 4) (by omega)]
    congr 2
    omega
theorem q_nlz33 {k n : Nat} (hk : 0 < k) (hk4 : k < 65536) (hn : 15 ≤ n) (hn2 : n < 64) : jS_J6_numberOfLeadingZeros_0f7a4_33 (nI k) (nI n) = some (nI (n + 1 - q_bl k)) := by
  unfold jS_J6_numberOfLeadingZeros_0f7a4_33
  simp (disch := omega) only [q_i256, q_i8, q_i31, q_lt, q_ush, q_neg]
  split
  · exact q_nlz48 hk (by omega) (by omega) hn2
  · rw [q_nlz48 (by omega) (by omega) (by omega) (by omega), q_bl_div (n := k) (s := 8) (by omega)]
    congr 2
    omega
theorem q_J6 {k : Nat} (hk : k < 2147483648) : j_J6_numberOfLeadingZeros_0f7a4 (nI k) = some (nI (32 - q_bl k)) := by
  unfold j_J6_numberOfLeadingZeros_0f7a4
  simp (disch := omega) only [q_i0, q_i65536, q_i16, q_i31, q_i32, q_lt, q_eq, q_ush, q_neg]
  by_cases h0 : k = 0
  · subst h0; rfl
  · rw [if_pos (by omega)]
    split
    · exact q_nlz33 (by omega) (by omega) (by omega) (by omega)
    · rw [q_nlz33 (by omega) (by omega) (by omega) (by omega), q_bl_div (n := k) (s := 16) (by omega)]
      congr 2
      omega
theorem q_neg32 {k : Nat} (h1 : 2147483648 ≤ k) (h2 : k < 4294967296) : (nI k).toInt = (k : Int) - 4294967296 := by
  show (Int32.ofNat k).toInt = _
  rw [Int32.toInt_ofNat']
  simp only [Int.bmod, show Int32.size = 4294967296 from rfl]
  split <;> omega
theorem q_J6n {k : Nat} (h1 : 2147483648 ≤ k) (h2 : k < 4294967296) : j_J6_numberOfLeadingZeros_0f7a4 (nI k) = some (nI 0) := by
  unfold j_J6_numberOfLeadingZeros_0f7a4
  have e := q_neg32 h1 h2
  have a : ¬ (0 : Int32) < nI k := by
    rw [Int32.lt_iff_toInt_lt, e, Int32.toInt_zero]; omega
  have b : ¬ nI k = (0 : Int32) := by
    intro h
    rw [h, Int32.toInt_zero] at e
    omega
  rw [if_neg a, if_neg b]
  rfl
theorem q_ushl {n k : Nat} (hn : n < 18446744073709551616) (hk : k < 64) : ((lN n).toUInt64 >>> ((nI k).toInt64.toUInt64 &&& Int64.toUInt64 63)).toInt64 = lN (n / 2 ^ k) := wb_shr hn hk
theorem q_J13 {n : Nat} (hn : n < 9223372036854775808) : j_J13_numberOfLeadingZeros_95d88 (lN n) = some (nI (64 - q_bl n)) := by
  unfold j_J13_numberOfLeadingZeros_95d88
  rw [show (32 : Int32) = nI 32 from rfl, q_ushl (by omega) (by omega), lN_i, lN_i]
  by_cases h : n < 4294967296
  · rw [if_pos (by rw [show n / 2 ^ 32 = 0 by omega]; rfl)]
    have hb : q_bl n ≤ 32 := q_bl_le.mpr h
    by_cases h2 : n < 2147483648
    · rw [q_J6 h2]
      show some (nI 32 + nI (32 - q_bl n)) = _
      rw [nI_add]
      congr 2
      omega
    · rw [q_J6n (by omega) h]
      show some (nI 32 + nI 0) = _
      have : 31 < q_bl n := q_bl_gt.mpr (by omega)
      rw [nI_add]
      congr 2
      omega
  · have h3 : ¬ nI (n / 2 ^ 32) = (0 : Int32) := nI_ne0 (by omega) (by omega)
    rw [if_neg h3, q_J6 (by omega)]
    show some (nI (32 - q_bl (n / 2 ^ 32))) = _
    have := q_bl_div (n := n) (s := 32) (by omega)
    congr 2
    omega
theorem q_bitLength {n : Nat} (hn : n < 9223372036854775808) : j_X1_bitLength (lN n) = some (nI (q_bl n)) := by
  unfold j_X1_bitLength
  rw [q_J13 hn]
  show some (nI 64 - nI (64 - q_bl n)) = _
  have : q_bl n ≤ 63 := q_bl_le.mpr (by omega)
  rw [q_sub (by omega)]
  congr 2
  omega
theorem q_gammaLength {n : Nat} (h0 : 0 < n) (hn : n < 9223372036854775808) : j_X1_gammaLength (lN n) = some (nI (2 * q_bl n - 1)) := by
  unfold j_X1_gammaLength
  rw [q_bitLength hn]
  have := q_bl_pos h0
  show some (nI 2 * nI (q_bl n) - nI 1) = _
  rw [pk_mul, q_sub (by omega)]
