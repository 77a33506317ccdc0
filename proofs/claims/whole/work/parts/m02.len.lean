/-! The lengths of codewords: class and reference say one number. -/
theorem q_s32 : ∀ c, c < 32 → ((nI c &&& 31).toBitVec.smod 32).toNat = c := by decide +kernel
theorem q_shl1 {c : Nat} (hc : c < 31) : (1 : Int32) <<< (nI c &&& 31) = nI (2 ^ c) := by
  have h := pk_shlN (n := 1) (nI c &&& 31) c (q_s32 c (by omega)) (by have := Nat.pow_lt_pow_right (a := 2) (by decide) (show c < 32 by omega); omega)
  rw [Nat.one_mul] at h
  exact h
theorem q_lshl (n : Nat) {k : Nat} (hk : k < 64) : lN n <<< ((nI k).toInt64 &&& 63) = lN (n * 2 ^ k) := wb_shl n hk
theorem q_s64 : ∀ c, c < 64 → (((nI c).toInt64 &&& 63).toBitVec.smod 64).toNat = c := by decide +kernel
theorem q_lshr {a k : Nat} (ha : a < 4611686018427387904) (hk : k < 64) : lN a >>> ((nI k).toInt64 &&& 63) = lN (a / 2 ^ k) := pf_shr (q_s64 k hk) ha
theorem q_bitsOfL : ∀ (f v b : Nat), v < 9223372036854775808 → q_bl v < f → jL_X2_bitsOf_4 f (nI b) (lN v) = some (nI (b + q_bl v)) := by
  intro f
  induction f with
  | zero => intro v b _ h; omega
  | succ f ih =>
    intro v b hv hf
    show (if lN v ≤ lN 0 then some (nI b) else jL_X2_bitsOf_4 f (nI b + nI 1) (lN v / lN 2)) = _
    rw [nI_add, q_ldiv hv (by omega) (by omega)]
    by_cases h : v = 0
    · subst h
      rw [if_pos ((q_lle (by omega) (by omega)).mpr (Nat.le_refl 0))]
      rfl
    · have e := q_bl_half (n := v) (by omega)
      rw [if_neg (fun h9 => by have := (q_lle hv (by omega)).mp h9; omega), ih (v / 2) (b + 1) (by omega) (by omega)]
      congr 2
      omega
theorem q_bitsOf {n : Nat} (h : n < 9223372036854775808) : j_X2_bitsOf (lN n) = some (nI (q_bl n)) := by
  unfold j_X2_bitsOf
  have hb : q_bl n ≤ 63 := q_bl_le.mpr h
  have := q_bitsOfL jF n 0 h (by unfold jF; omega)
  rw [Nat.zero_add] at this
  exact this
theorem q_powL : ∀ (f c p : Nat), 1 ≤ p → p ≤ 1000000 → c ≤ q_bl (p - 1) → q_bl (p - 1) < c + f → jL_X2_powerFor_2 (nI p) f (nI c) = some (nI (q_bl (p - 1))) := by
  intro f
  induction f with
  | zero => intro c p _ _ _ h; omega
  | succ f ih =>
    intro c p h1 h2 h3 h4
    have hb : q_bl (p - 1) ≤ 20 := q_bl_le.mpr (by omega)
    show (if nI p ≤ (1 : Int32) <<< (nI c &&& 31) then some (nI c) else jL_X2_powerFor_2 (nI p) f (nI c + nI 1)) = _
    have hp : 2 ^ c ≤ 2 ^ 20 := Nat.pow_le_pow_right (by decide) (by omega)
    rw [q_shl1 (by omega), nI_add]
    by_cases h : p ≤ 2 ^ c
    · rw [if_pos ((q_le (by omega) (by omega)).mpr h)]
      have : q_bl (p - 1) ≤ c := q_bl_le.mpr (by have := Nat.two_pow_pos c; omega)
      rw [show c = q_bl (p - 1) by omega]
    · rw [if_neg (fun h9 => h ((q_le (by omega) (by omega)).mp h9))]
      have : c < q_bl (p - 1) := q_bl_gt.mpr (by omega)
      exact ih (c + 1) p h1 h2 (by omega) (by omega)
theorem q_powerFor {p : Nat} (h1 : 1 ≤ p) (h2 : p ≤ 1000000) : j_X2_powerFor (nI p) = some (nI (q_bl (p - 1))) := by
  unfold j_X2_powerFor
  have hb : q_bl (p - 1) ≤ 20 := q_bl_le.mpr (by omega)
  exact q_powL jF 0 p h1 h2 (by omega) (by unfold jF; omega)
/-! kind 3 -/
def q_omf : Nat → Nat → Nat
  | 0, _ => 1
  | f + 1, n => if n ≤ 1 then 1 else q_bl n + q_omf f (q_bl n - 1)
def q_om (n : Nat) : Nat := q_omf 4 n
/-- the chain from n ends within f steps -/
def q_omt : Nat → Nat → Prop
  | 0, n => n ≤ 1
  | f + 1, n => n ≤ 1 ∨ q_omt f (q_bl n - 1)
theorem q_omt4 {n : Nat} (h : n < 9223372036854775808) : q_omt 4 n := by
  have h1 : q_bl n ≤ 63 := q_bl_le.mpr h
  have h2 : q_bl (q_bl n - 1) ≤ 6 := q_bl_le.mpr (by omega)
  have h3 : q_bl (q_bl (q_bl n - 1) - 1) ≤ 3 := q_bl_le.mpr (by omega)
  have h4 : q_bl (q_bl (q_bl (q_bl n - 1) - 1) - 1) ≤ 2 := q_bl_le.mpr (by omega)
  exact Or.inr (Or.inr (Or.inr (Or.inr (show q_bl (q_bl (q_bl (q_bl n - 1) - 1) - 1) - 1 ≤ 1 by omega))))
theorem q_omf_eq : ∀ (f g n : Nat), q_omt g n → g ≤ f → q_omf f n = q_omf g n := by
  intro f
  induction f with
  | zero => intro g n _ h; rw [show g = 0 by omega]
  | succ f ih =>
    intro g n h hg
    cases g with
    | zero =>
      have h : n ≤ 1 := h
      show (if n ≤ 1 then 1 else _) = 1
      rw [if_pos h]
    | succ g =>
      show (if n ≤ 1 then 1 else q_bl n + q_omf f (q_bl n - 1)) = if n ≤ 1 then 1 else q_bl n + q_omf g (q_bl n - 1)
      by_cases h1 : n ≤ 1
      · rw [if_pos h1, if_pos h1]
      · rw [if_neg h1, if_neg h1]
        rcases h with h | h
        · exact absurd h h1
        · rw [ih g _ h (by omega)]
theorem q_om_step {n : Nat} (h : 2 ≤ n) (hn : n < 9223372036854775808) : q_om n = q_bl n + q_om (q_bl n - 1) := by
  have h1 : q_bl n ≤ 63 := q_bl_le.mpr hn
  have e := q_omf_eq 5 4 n (q_omt4 hn) (by omega)
  unfold q_om
  rw [← e]
  show (if n ≤ 1 then 1 else _) = _
  rw [if_neg (by omega)]
theorem q_om1 : q_om 1 = 1 := rfl
theorem q_omf_le : ∀ (f n : Nat), n < 9223372036854775808 → q_omf f n ≤ 1 + 63 * f := by
  intro f
  induction f with
  | zero => intro n _; exact Nat.le_refl _
  | succ f ih =>
    intro n hn
    have h1 : q_bl n ≤ 63 := q_bl_le.mpr hn
    show (if n ≤ 1 then 1 else q_bl n + q_omf f (q_bl n - 1)) ≤ _
    split
    · omega
    · have := ih (q_bl n - 1) (by omega)
      omega
theorem q_omegaL : ∀ (f g n b : Nat), q_omt g n → n < 9223372036854775808 → 0 < n → g + f ≤ 8 → ∀ z, 8 - f < z → b + 63 * g < 1000 → jL_X1_omegaLength_7 z (nI b) (lN n) (nI f) = some (nI (b + q_omf g n - 1)) := by
  intro f g
  induction g generalizing f with
  | zero =>
    intro n b h hn h0 hg z hz hb
    have h : n ≤ 1 := h
    cases z with
    | zero => omega
    | succ z =>
      show (if nI 8 ≤ nI f then some (nI b) else if lN n ≤ lN 1 then some (nI b) else _) = _
      have e : q_omf 0 n = 1 := rfl
      rw [e, show b + 1 - 1 = b by omega]
      by_cases h8 : nI 8 ≤ nI f
      · rw [if_pos h8]
      · rw [if_neg h8, if_pos ((q_lle hn (by omega)).mpr h)]
  | succ g ih =>
    intro n b h hn h0 hg z hz hb
    cases z with
    | zero => omega
    | succ z =>
      show (if nI 8 ≤ nI f then some (nI b) else if lN n ≤ lN 1 then some (nI b) else (j_X1_bitLength (lN n)).bind fun v703 => jL_X1_omegaLength_7 z (nI b + v703) ((v703 - nI 1).toInt64) (nI f + nI 1)) = _
      rw [if_neg (fun h9 => by have := (q_le (by omega) (by omega)).mp h9; omega)]
      show _ = some (nI (b + (if n ≤ 1 then 1 else q_bl n + q_omf g (q_bl n - 1)) - 1))
      by_cases h1 : n ≤ 1
      · rw [if_pos ((q_lle hn (by omega)).mpr h1), if_pos h1]
        rfl
      · rw [if_neg (fun h9 => h1 ((q_lle hn (by omega)).mp h9)), if_neg h1, q_bitLength hn]
        have hb1 : q_bl n ≤ 63 := q_bl_le.mpr hn
        have hb2 : 1 < q_bl n := q_bl_gt.mpr (by omega)
        show jL_X1_omegaLength_7 z (nI b + nI (q_bl n)) ((nI (q_bl n) - nI 1).toInt64) (nI f + nI 1) = _
        rw [nI_add, nI_add, q_sub (by omega), q_i2l (by omega)]
        rcases h with h | h
        · exact absurd h h1
        · rw [ih (f + 1) (q_bl n - 1) (b + q_bl n) h (by omega) (by omega) (by omega) z (by omega) (by omega)]
          congr 2
          omega
theorem q_omegaLength {n : Nat} (h0 : 0 < n) (hn : n < 9223372036854775808) : j_X1_omegaLength (lN n) = some (nI (q_om n)) := by
  unfold j_X1_omegaLength
  have := q_omegaL 0 4 n 1 (q_omt4 hn) hn h0 (by omega) jF (by unfold jF; omega) (by omega)
  rw [show 1 + q_omf 4 n - 1 = q_om n by unfold q_om; omega] at this
  exact this
theorem q_byChainL : ∀ (g n b z : Nat), q_omt g n → n < 9223372036854775808 → 0 < n → g < z → 0 < b → jL_X2_byChain_5 z (lN b) (lN n) = some (lN (b + q_omf g n - 1)) := by
  intro g
  induction g with
  | zero =>
    intro n b z h hn h0 hz hb
    have h : n ≤ 1 := h
    cases z with
    | zero => omega
    | succ z =>
      show (if lN n = lN 1 then some (lN b) else _) = _
      rw [if_pos (by rw [show n = 1 by omega]), show q_omf 0 n = 1 from rfl, show b + 1 - 1 = b by omega]
  | succ g ih =>
    intro n b z h hn h0 hz hb
    cases z with
    | zero => omega
    | succ z =>
      show (if lN n = lN 1 then some (lN b) else (j_X2_bitsOf (lN n)).bind fun v502 => jL_X2_byChain_5 z (lN b + v502.toInt64) ((v502 - nI 1).toInt64)) = some (lN (b + (if n ≤ 1 then 1 else q_bl n + q_omf g (q_bl n - 1)) - 1))
      by_cases h1 : n ≤ 1
      · rw [if_pos (by rw [show n = 1 by omega]), if_pos h1]
        rfl
      · have hb1 : q_bl n ≤ 63 := q_bl_le.mpr hn
        have hb2 : 1 < q_bl n := q_bl_gt.mpr (by omega)
        rw [if_neg (fun h9 => h1 (by have := (q_leq hn (by omega)).mp h9; omega)), if_neg h1, q_bitsOf hn]
        show jL_X2_byChain_5 z (lN b + (nI (q_bl n)).toInt64) ((nI (q_bl n) - nI 1).toInt64) = _
        rw [q_i2l (by omega), lN_add, q_sub (by omega), q_i2l (by omega)]
        rcases h with h | h
        · exact absurd h h1
        · rw [ih (q_bl n - 1) (b + q_bl n) z h (by omega) (by omega) (by omega) (by omega)]
          congr 2
          omega
theorem q_byChain {n : Nat} (h0 : 0 < n) (hn : n < 9223372036854775808) : j_X2_byChain (lN n) = some (lN (q_om n)) := by
  unfold j_X2_byChain
  have := q_byChainL 4 n 1 jF (q_omt4 hn) hn h0 (by unfold jF; omega) (by omega)
  rw [show 1 + q_omf 4 n - 1 = q_om n by unfold q_om; omega] at this
  exact this
/-! kind 4 -/
def q_Fp : Nat → Nat × Nat
  | 0 => (1, 2)
  | n + 1 => match q_Fp n with
    | (a, b) => (b, a + b)
def q_F (n : Nat) : Nat := (q_Fp n).1
theorem q_Fp2 (n : Nat) : (q_Fp n).2 = q_F (n + 1) := rfl
theorem q_F0 : q_F 0 = 1 := rfl
theorem q_F1 : q_F 1 = 2 := rfl
theorem q_F_rec (n : Nat) : q_F (n + 2) = q_F (n + 1) + q_F n := by
  show (q_Fp n).1 + (q_Fp n).2 = (q_Fp n).2 + (q_Fp n).1
  omega
theorem q_F_pos : ∀ n, 0 < q_F n ∧ 0 < q_F (n + 1) := by
  intro n
  induction n with
  | zero => exact ⟨by decide, by decide⟩
  | succ n ih => exact ⟨ih.2, by have h : q_F (n + 1 + 1) = q_F (n + 1) + q_F n := q_F_rec n; omega⟩
theorem q_F_lt (n : Nat) : q_F n < q_F (n + 1) := by
  cases n with
  | zero => decide
  | succ n =>
    have h : q_F (n + 1 + 1) = q_F (n + 1) + q_F n := q_F_rec n
    have := (q_F_pos n).1
    omega
theorem q_F_mono {a b : Nat} (h : a ≤ b) : q_F a ≤ q_F b := by
  induction h with
  | refl => exact Nat.le_refl _
  | step _ ih => exact Nat.le_trans ih (Nat.le_of_lt (q_F_lt _))
theorem q_F88 : q_F 88 ≤ 4611686018427387904 := by decide +kernel
theorem q_F89 : 4611686018427387904 < q_F 89 := by decide +kernel
theorem q_F90 : q_F 90 < 9223372036854775808 := by decide +kernel
def q_fis (n : Nat) : Nat → Nat
  | 0 => 0
  | t + 1 => if q_F (t + 1) ≤ n then t + 1 else q_fis n t
/-- the place of the greatest of 1, 2, 3, 5, .. that is not above n -/
def q_fi (n : Nat) : Nat := q_fis n 88
theorem q_fis_le (n : Nat) : ∀ t, q_fis n t ≤ t := by
  intro t
  induction t with
  | zero => exact Nat.le_refl _
  | succ t ih =>
    show (if q_F (t + 1) ≤ n then t + 1 else q_fis n t) ≤ _
    split <;> omega
theorem q_fis_ge {n : Nat} (h : 0 < n) : ∀ t, q_F (q_fis n t) ≤ n := by
  intro t
  induction t with
  | zero => exact h
  | succ t ih =>
    show q_F (if q_F (t + 1) ≤ n then t + 1 else q_fis n t) ≤ _
    split
    · assumption
    · exact ih
theorem q_fis_up (n : Nat) : ∀ t i, q_fis n t < i → i ≤ t → n < q_F i := by
  intro t
  induction t with
  | zero => intro i h1 h2; omega
  | succ t ih =>
    intro i h1 h2
    have h1 : (if q_F (t + 1) ≤ n then t + 1 else q_fis n t) < i := h1
    by_cases h : q_F (t + 1) ≤ n
    · rw [if_pos h] at h1; omega
    · rw [if_neg h] at h1
      by_cases e : i = t + 1
      · subst e; omega
      · exact ih i h1 (by omega)
theorem q_fi_le (n : Nat) : q_fi n ≤ 88 := q_fis_le n 88
theorem q_fi_ge {n : Nat} (h : 0 < n) : q_F (q_fi n) ≤ n := q_fis_ge h 88
theorem q_fi_up {n : Nat} (h : n ≤ 4611686018427387904) {i : Nat} (hi : q_fi n < i) : n < q_F i := by
  by_cases h8 : i ≤ 88
  · exact q_fis_up n 88 i hi h8
  · have := q_F_mono (show 89 ≤ i by omega)
    have := q_F89
    omega
theorem q_fi_iff {n i : Nat} (h0 : 0 < n) (h : n ≤ 4611686018427387904) : q_F i ≤ n ↔ i ≤ q_fi n := by
  constructor
  · intro h1
    rcases Nat.lt_or_ge (q_fi n) i with h2 | h2
    · have := q_fi_up h h2; omega
    · exact h2
  · intro h1
    exact Nat.le_trans (q_F_mono h1) (q_fi_ge h0)
theorem q_F_small {i : Nat} (h : i ≤ 90) : q_F i < 9223372036854775808 := Nat.lt_of_le_of_lt (q_F_mono h) q_F90
theorem q_fibL {fb : Nat → Int64} (hfb : ∀ i, i < 89 → fb i = lN (q_F i)) {n : Nat} (h0 : 0 < n) (hn : n ≤ 4611686018427387904) : ∀ (m lo hi st z : Nat), lo ≤ q_fi n → q_fi n ≤ hi → hi ≤ 88 → hi - lo < 2 ^ m → st + m ≤ 63 → m < z → jL_X1_fibonacciLength_9 fb (lN n) z (nI lo) (nI hi) (nI st) = some (nI (q_fi n + 2)) := by
  intro m
  induction m with
  | zero =>
    intro lo hi st z h1 h2 h3 h4 h5 h6
    cases z with
    | zero => omega
    | succ z =>
      show (if nI 64 ≤ nI st then some (nI lo + nI 2) else if nI hi ≤ nI lo then some (nI lo + nI 2) else _) = _
      have e : lo = q_fi n := by omega
      rw [nI_add, ← e]
      by_cases c1 : nI 64 ≤ nI st
      · rw [if_pos c1]
      · rw [if_neg c1, if_pos ((q_le (by omega) (by omega)).mpr (by omega))]
  | succ m ih =>
    intro lo hi st z h1 h2 h3 h4 h5 h6
    cases z with
    | zero => omega
    | succ z =>
      show (if nI 64 ≤ nI st then some (nI lo + nI 2) else if nI hi ≤ nI lo then some (nI lo + nI 2) else (jix (((nI lo + nI hi) + nI 1) / nI 2) 89 (if lN n < fb (((nI lo + nI hi) + nI 1) / nI 2).toNatClampNeg then jL_X1_fibonacciLength_9 fb (lN n) z (nI lo) ((((nI lo + nI hi) + nI 1) / nI 2) - nI 1) (nI st + nI 1) else jL_X1_fibonacciLength_9 fb (lN n) z (((nI lo + nI hi) + nI 1) / nI 2) (nI hi) (nI st + nI 1)))) = _
      rw [if_neg (fun h9 => by have := (q_le (by omega) (by omega)).mp h9; omega)]
      by_cases c2 : hi ≤ lo
      · rw [if_pos ((q_le (by omega) (by omega)).mpr c2), nI_add]
        congr 2
        omega
      · rw [if_neg (fun h9 => c2 ((q_le (by omega) (by omega)).mp h9))]
        rw [nI_add, nI_add, q_div (by omega) (by omega) (by omega), q_jix (by omega) (by omega), q_clamp (by omega), hfb _ (by omega), nI_add]
        have hs := q_F_small (i := (lo + hi + 1) / 2) (by omega)
        have hp : 2 ^ (m + 1) = 2 * 2 ^ m := by rw [Nat.pow_succ]; omega
        by_cases c3 : n < q_F ((lo + hi + 1) / 2)
        · rw [if_pos ((q_llt (by omega) hs).mpr c3), q_sub (by omega)]
          have : ¬ (lo + hi + 1) / 2 ≤ q_fi n := fun h9 => by have := (q_fi_iff h0 hn).mpr h9; omega
          exact ih lo _ (st + 1) z h1 (by omega) (by omega) (by omega) (by omega) (by omega)
        · rw [if_neg (fun h9 => c3 ((q_llt (by omega) hs).mp h9))]
          have : (lo + hi + 1) / 2 ≤ q_fi n := (q_fi_iff h0 hn).mp (by omega)
          exact ih _ hi (st + 1) z this h2 h3 (by omega) (by omega) (by omega)
theorem q_fibLength {fb : Nat → Int64} (hfb : ∀ i, i < 89 → fb i = lN (q_F i)) {n : Nat} (h0 : 0 < n) (hn : n ≤ 4611686018427387904) : j_X1_fibonacciLength fb (lN n) = some (nI (q_fi n + 2)) := by
  unfold j_X1_fibonacciLength
  exact q_fibL hfb h0 hn 7 0 88 0 jF (by omega) (q_fi_le n) (by omega) (by decide) (by omega) (by unfold jF; omega)
theorem q_greatL {sm : Nat → Int64} (hsm : ∀ i, 1 ≤ i → i < 92 → sm i = lN (q_F (i - 1))) {n : Nat} (h0 : 0 < n) (hn : n ≤ 4611686018427387904) : ∀ (z k : Nat), 1 ≤ k → k ≤ q_fi n + 1 → q_fi n + 1 < k + z → jL_X2_greatest_2 sm (lN n) z (nI k) = some (nI (q_fi n + 1)) := by
  intro z
  induction z with
  | zero => intro k h1 h2 h3; omega
  | succ z ih =>
    intro k h1 h2 h3
    have h8 := q_fi_le n
    show (if nI 90 ≤ nI k then some (nI k) else jix (nI k + nI 1) 92 (if lN n < sm (nI k + nI 1).toNatClampNeg then some (nI k) else jL_X2_greatest_2 sm (lN n) z (nI k + nI 1))) = _
    rw [if_neg (fun h9 => by have := (q_le (by omega) (by omega)).mp h9; omega), nI_add, q_jix (by omega) (by omega), q_clamp (by omega), hsm _ (by omega) (by omega)]
    have hs := q_F_small (i := k + 1 - 1) (by omega)
    by_cases c : n < q_F (k + 1 - 1)
    · rw [if_pos ((q_llt (by omega) hs).mpr c)]
      have : ¬ k + 1 - 1 ≤ q_fi n := fun h9 => by have := (q_fi_iff h0 hn).mpr h9; omega
      congr 2
      omega
    · rw [if_neg (fun h9 => c ((q_llt (by omega) hs).mp h9))]
      have : k + 1 - 1 ≤ q_fi n := (q_fi_iff h0 hn).mp (by omega)
      exact ih (k + 1) (by omega) (by omega) (by omega)
theorem q_greatest {sm : Nat → Int64} (hsm : ∀ i, 1 ≤ i → i < 92 → sm i = lN (q_F (i - 1))) {n : Nat} (h0 : 0 < n) (hn : n ≤ 4611686018427387904) : j_X2_greatest sm (lN n) = some (nI (q_fi n + 1)) := by
  unfold j_X2_greatest
  have h8 := q_fi_le n
  exact q_greatL hsm h0 hn jF 1 (by omega) (by omega) (by unfold jF; omega)
