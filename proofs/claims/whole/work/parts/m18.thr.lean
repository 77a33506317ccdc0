/-! The least number whose codeword reaches a length: a formula for each kind; the class's search finds it. -/
theorem q_gl_le {p n : Nat} (h1 : 1 ≤ p) (h2 : p ≤ 1000000) : q_gl p n ≤ n + 30 := by
  have hc : q_bl (p - 1) ≤ 20 := q_bl_le.mpr (by omega)
  have hd : (n - 1) / p ≤ n - 1 := Nat.div_le_self _ _
  unfold q_gl
  split <;> omega
theorem q_len_le {k p n : Nat} (ho : q_ok k p) (hn : q_num n) : q_len k p n ≤ n + 2000 := by
  obtain ⟨n1, n2⟩ := id hn
  obtain ⟨k7, o1, o2, o3, o4⟩ := ho
  have hb : q_bl n ≤ 63 := q_bl_le.mpr (by omega)
  have hbb : q_bl (q_bl n) ≤ 6 := q_bl_le.mpr (by omega)
  rcases (show k = 0 ∨ k = 1 ∨ k = 2 ∨ k = 3 ∨ k = 4 ∨ k = 5 ∨ k = 6 ∨ k = 7 by omega) with rfl | rfl | rfl | rfl | rfl | rfl | rfl | rfl
  · show n ≤ n + 2000; omega
  · show 2 * q_bl n - 1 ≤ n + 2000; omega
  · show 2 * q_bl (q_bl n) - 1 + q_bl n - 1 ≤ n + 2000; omega
  · have := q_om_le (n := n) (by omega)
    show q_om n ≤ n + 2000; omega
  · have := q_fi_le n
    show q_fi n + 2 ≤ n + 2000; omega
  · have := q_gl_le (n := n) (o2 rfl).1 (o2 rfl).2
    show q_gl p n ≤ n + 2000; omega
  · have hd : (n - 1) / 2 ^ p ≤ n - 1 := Nat.div_le_self _ _
    have hb6 : q_bl ((n - 1) / 2 ^ p + 1) ≤ 63 := q_bl_le.mpr (by omega)
    have := o3 rfl
    show 2 * q_bl ((n - 1) / 2 ^ p + 1) - 1 + p ≤ n + 2000; omega
  · obtain ⟨p1, p2⟩ := o4 rfl
    have hg := (q_gr_le p1 hn).1
    have : q_gr p n * (p + 1) ≤ 78 * 17 := Nat.mul_le_mul hg (by omega)
    show q_gr p n * (p + 1) ≤ n + 2000; omega
theorem q_lrL {fb : Nat → Int64} (hfb : ∀ i, i < 89 → fb i = lN (q_F i)) {k p L T : Nat} (ho : q_ok k p) (hL : L ≤ 1000) (hT : ∀ n, q_num n → (q_len k p n < L ↔ n < T)) : ∀ (m lo hi st z : Nat), 1 ≤ lo → lo ≤ T → T ≤ hi → hi ≤ 4611686018427387905 → hi - lo < 2 ^ m → st + m ≤ 63 → m < z → jL_X1_leastReaching_11 fb (nI k) (nI p) (nI L) z (lN lo) (lN hi) (nI st) = some (lN T) := by
  intro m
  induction m with
  | zero =>
    intro lo hi st z h1 h2 h3 h4 h5 h6 h7
    cases z with
    | zero => omega
    | succ z =>
      show (if nI 64 ≤ nI st then some (lN lo) else if lN hi ≤ lN lo then some (lN lo) else _) = _
      have e : lo = T := by omega
      rw [if_neg (fun h9 => by have := (q_le (by omega) (by omega)).mp h9; omega), if_pos ((q_lle (by omega) (by omega)).mpr (by omega)), e]
  | succ m ih =>
    intro lo hi st z h1 h2 h3 h4 h5 h6 h7
    cases z with
    | zero => omega
    | succ z =>
      show (if nI 64 ≤ nI st then some (lN lo) else if lN hi ≤ lN lo then some (lN lo) else ((j_X1_codewordLength fb (nI k) (nI p) (lN lo + ((lN hi - lN lo) / lN 2))).bind fun v1103 => (if (nI L).toInt64 ≤ v1103 then (jL_X1_leastReaching_11 fb (nI k) (nI p) (nI L) z (lN lo) (lN lo + ((lN hi - lN lo) / lN 2)) (nI st + nI 1)) else (jL_X1_leastReaching_11 fb (nI k) (nI p) (nI L) z ((lN lo + ((lN hi - lN lo) / lN 2)) + lN 1) (lN hi) (nI st + nI 1))))) = _
      rw [if_neg (fun h9 => by have := (q_le (by omega) (by omega)).mp h9; omega)]
      by_cases c : hi ≤ lo
      · have e : lo = T := by omega
        rw [if_pos ((q_lle (by omega) (by omega)).mpr c), e]
      · have hp : 2 ^ (m + 1) = 2 * 2 ^ m := by rw [Nat.pow_succ]; omega
        have hmid : q_num (lo + (hi - lo) / 2) := ⟨by omega, by omega⟩
        have hlen := q_len_le ho hmid
        have ht := hT _ hmid
        rw [if_neg (fun h9 => c ((q_lle (by omega) (by omega)).mp h9)), q_lsub (by omega), q_ldiv (by omega) (by omega) (by omega), lN_add, q_lenC hfb ho hmid, Option.bind_some, q_i2l (by omega), nI_add, lN_add]
        by_cases d : L ≤ q_len k p (lo + (hi - lo) / 2)
        · rw [if_pos ((q_lle (by omega) (by omega)).mpr d)]
          exact ih lo _ (st + 1) z h1 h2 (by omega) (by omega) (by omega) (by omega) (by omega)
        · rw [if_neg (fun h9 => d ((q_lle (by omega) (by omega)).mp h9))]
          have : lo + (hi - lo) / 2 < T := ht.mp (by omega)
          exact ih _ hi (st + 1) z (by omega) (by omega) h3 h4 (by omega) (by omega) (by omega)
theorem q_lr {fb : Nat → Int64} (hfb : ∀ i, i < 89 → fb i = lN (q_F i)) {k p L T : Nat} (ho : q_ok k p) (hL : L ≤ 1000) (hT : ∀ n, q_num n → (q_len k p n < L ↔ n < T)) (hT1 : 1 ≤ T) (hT2 : T ≤ 4611686018427387905) : j_X1_leastReaching fb (nI k) (nI p) (nI L) = some (lN T) := by
  unfold j_X1_leastReaching
  rw [q_l1, q_lM1, q_i0]
  exact q_lrL hfb ho hL hT 63 1 4611686018427387905 0 jF (by omega) hT1 hT2 (by omega) (by decide) (by omega) (by unfold jF; omega)
/-! kinds 1 to 3: the length is told by the number of bits -/
def q_G (k b : Nat) : Nat := if k = 1 then 2 * b - 1 else if k = 2 then 2 * q_bl b - 1 + b - 1 else (if b ≤ 1 then 1 else b + q_om (b - 1))
theorem q_Gs : ∀ k, k < 4 → ∀ b, b < 63 → 1 ≤ k → 1 ≤ b → q_G k b < q_G k (b + 1) := by decide +kernel
theorem q_lenG {k p n : Nat} (h1 : 1 ≤ k) (h3 : k ≤ 3) (hn : q_num n) : q_len k p n = q_G k (q_bl n) := by
  obtain ⟨n1, n2⟩ := hn
  rcases (show k = 1 ∨ k = 2 ∨ k = 3 by omega) with rfl | rfl | rfl
  · rfl
  · rfl
  · show q_om n = if q_bl n ≤ 1 then 1 else q_bl n + q_om (q_bl n - 1)
    by_cases c : n = 1
    · subst c; rfl
    · have : 1 < q_bl n := q_bl_gt.mpr (by omega)
      rw [if_neg (by omega)]
      exact q_om_step (by omega) (by omega)
theorem q_Gm {k : Nat} (h1 : 1 ≤ k) (h3 : k ≤ 3) : ∀ (d b : Nat), 1 ≤ b → b + d ≤ 63 → q_G k b + d ≤ q_G k (b + d) := by
  intro d
  induction d with
  | zero => intro b _ _; exact Nat.le_refl _
  | succ d ih =>
    intro b hb hd
    have a := ih b hb (by omega)
    have c := q_Gs k (by omega) (b + d) (by omega) h1 (by omega)
    have e : b + (d + 1) = b + d + 1 := by omega
    rw [e]
    omega
theorem q_Glt {k : Nat} (h1 : 1 ≤ k) (h3 : k ≤ 3) {a b : Nat} (ha : 1 ≤ a) (hb : b ≤ 63) (h : a < b) : q_G k a < q_G k b := by
  have := q_Gm h1 h3 (b - a) a ha (by omega)
  rw [show a + (b - a) = b by omega] at this
  omega
def q_cB (G : Nat → Nat) (L : Nat) : Nat → Nat
  | 0 => 0
  | m + 1 => if G (m + 1) < L then m + 1 else q_cB G L m
theorem q_cB_le (G : Nat → Nat) (L : Nat) : ∀ m, q_cB G L m ≤ m := by
  intro m
  induction m with
  | zero => exact Nat.le_refl _
  | succ m ih =>
    show (if G (m + 1) < L then m + 1 else q_cB G L m) ≤ _
    split <;> omega
theorem q_cB_ge (G : Nat → Nat) (L : Nat) : ∀ m, 0 < q_cB G L m → G (q_cB G L m) < L := by
  intro m
  induction m with
  | zero => intro h; exact absurd h (Nat.lt_irrefl 0)
  | succ m ih =>
    intro h
    have e : q_cB G L (m + 1) = if G (m + 1) < L then m + 1 else q_cB G L m := rfl
    by_cases c : G (m + 1) < L
    · rw [if_pos c] at e
      rw [e]
      exact c
    · rw [if_neg c] at e
      rw [e] at h ⊢
      exact ih h
theorem q_cB_up (G : Nat → Nat) (L : Nat) : ∀ m b, q_cB G L m < b → b ≤ m → ¬ G b < L := by
  intro m
  induction m with
  | zero => intro b h1 h2; omega
  | succ m ih =>
    intro b h1 h2
    have e : q_cB G L (m + 1) = if G (m + 1) < L then m + 1 else q_cB G L m := rfl
    by_cases c : G (m + 1) < L
    · rw [if_pos c] at e
      omega
    · rw [if_neg c] at e
      by_cases d : b = m + 1
      · rw [d]; exact c
      · exact ih b (by omega) (by omega)
def q_B (k L : Nat) : Nat := q_cB (q_G k) L 63
theorem q_B_le (k L : Nat) : q_B k L ≤ 63 := q_cB_le _ _ _
theorem q_B_iff {k L b : Nat} (h1 : 1 ≤ k) (h3 : k ≤ 3) (hb : 1 ≤ b) (hb2 : b ≤ 63) : q_G k b < L ↔ b ≤ q_B k L := by
  constructor
  · intro h
    rcases Nat.lt_or_ge (q_B k L) b with c | c
    · exact absurd h (q_cB_up _ _ 63 b c hb2)
    · exact c
  · intro h
    have hg := q_cB_ge (q_G k) L 63 (show 0 < q_B k L by omega)
    have hg : q_G k (q_B k L) < L := hg
    by_cases c : b = q_B k L
    · rw [c]; exact hg
    · have := q_Glt h1 h3 hb (q_B_le k L) (show b < q_B k L by omega)
      omega
/-! the formula -/
def q_T (k p L : Nat) : Nat := if k = 0 then (if L = 0 then 1 else L) else if k ≤ 3 then (if q_B k L < 63 then 2 ^ q_B k L else 4611686018427387905) else if k = 4 then (if L < 91 then q_F (L - 2) else 4611686018427387905) else if k = 5 then (if L ≤ q_bl (p - 1) then 1 else (L - 1 - q_bl (p - 1)) * p + (2 ^ q_bl (p - 1) - p) + 1) else if k = 6 then (if (L - p) / 2 + p < 63 then (2 ^ ((L - p) / 2) - 1) * 2 ^ p + 1 else 4611686018427387905) else (if (L - 1) / (p + 1) = 0 then 1 else if (L - 1) / (p + 1) * p < 62 then 2 ^ ((L - 1) / (p + 1) * p) + 1 else 4611686018427387905)
theorem q_T0 {p L : Nat} : q_T 0 p L = if L = 0 then 1 else L := rfl
theorem q_T13 {k p L : Nat} (h1 : 1 ≤ k) (h3 : k ≤ 3) : q_T k p L = if q_B k L < 63 then 2 ^ q_B k L else 4611686018427387905 := by
  unfold q_T
  rw [if_neg (by omega), if_pos h3]
theorem q_T4 {p L : Nat} : q_T 4 p L = if L < 91 then q_F (L - 2) else 4611686018427387905 := rfl
theorem q_T5 {p L : Nat} : q_T 5 p L = if L ≤ q_bl (p - 1) then 1 else (L - 1 - q_bl (p - 1)) * p + (2 ^ q_bl (p - 1) - p) + 1 := rfl
theorem q_T6 {p L : Nat} : q_T 6 p L = if (L - p) / 2 + p < 63 then (2 ^ ((L - p) / 2) - 1) * 2 ^ p + 1 else 4611686018427387905 := rfl
theorem q_T7 {p L : Nat} : q_T 7 p L = if (L - 1) / (p + 1) = 0 then 1 else if (L - 1) / (p + 1) * p < 62 then 2 ^ ((L - 1) / (p + 1) * p) + 1 else 4611686018427387905 := rfl
theorem q_s_lt {p : Nat} (h1 : 1 ≤ p) : 2 ^ q_bl (p - 1) - p < p := by
  by_cases c : p = 1
  · subst c; decide
  · have := q_bl_ge (n := p - 1) (by omega)
    have h2 := q_bl_pos (n := p - 1) (by omega)
    have h3 : 2 ^ q_bl (p - 1) = 2 * 2 ^ (q_bl (p - 1) - 1) := by
      rw [← Nat.pow_succ', show (q_bl (p - 1) - 1).succ = q_bl (p - 1) by omega]
    omega
theorem q_T_iff {k p L n : Nat} (ho : q_ok k p) (hL : L ≤ 300) (hn : q_num n) : q_len k p n < L ↔ n < q_T k p L := by
  obtain ⟨n1, n2⟩ := id hn
  obtain ⟨k7, o1, o2, o3, o4⟩ := ho
  rcases (show k = 0 ∨ (1 ≤ k ∧ k ≤ 3) ∨ k = 4 ∨ k = 5 ∨ k = 6 ∨ k = 7 by omega) with rfl | ⟨h1, h3⟩ | rfl | rfl | rfl | rfl
  · rw [q_T0]
    show n < L ↔ _
    split <;> omega
  · have hb : q_bl n ≤ 63 := q_bl_le.mpr (by omega)
    have hb0 : 0 < q_bl n := q_bl_pos (by omega)
    have hB := q_B_le k L
    rw [q_lenG h1 h3 hn, q_B_iff h1 h3 hb0 hb, q_T13 h1 h3]
    by_cases c : q_B k L < 63
    · rw [if_pos c]
      exact q_bl_le
    · rw [if_neg c]
      omega
  · rw [q_T4]
    show q_fi n + 2 < L ↔ _
    by_cases c : L < 91
    · rw [if_pos c]
      have := q_fi_iff (i := L - 2) n1 n2
      have h0 : q_F 0 = 1 := rfl
      by_cases d : L ≤ 2
      · rw [show L - 2 = 0 by omega, h0]
        omega
      · omega
    · rw [if_neg c]
      have := q_fi_le n
      omega
  · obtain ⟨p1, p2⟩ := o2 rfl
    rw [q_T5]
    show q_gl p n < L ↔ _
    unfold q_gl
    have hup := q_c_up p1
    have hs := q_s_lt p1
    have hdm := Nat.div_add_mod (n - 1) p
    have hmod := Nat.mod_lt (n - 1) (show p > 0 by omega)
    have hc0 := q_c0 (n := n) p1
    generalize 2 ^ q_bl (p - 1) - p = s at hs hc0 ⊢
    generalize q_bl (p - 1) = c at hc0 ⊢
    generalize (n - 1) % p = r at hdm hmod hc0 ⊢
    generalize (n - 1) / p = q at hdm ⊢
    rw [Nat.mul_comm p q] at hdm
    by_cases cL : L ≤ c
    · rw [if_pos cL]
      by_cases d : r < s
      · rw [if_pos d]
        have := hc0 d
        omega
      · rw [if_neg d]
        omega
    · rw [if_neg cL]
      obtain ⟨t, rfl⟩ : ∃ t, L = t + 1 + c := ⟨L - 1 - c, by omega⟩
      rw [show t + 1 + c - 1 - c = t by omega]
      by_cases d : r < s
      · rw [if_pos d]
        have := hc0 d
        rcases Nat.lt_or_ge t q with e | e
        · have h7 := Nat.mul_le_mul_right p (show t + 1 ≤ q by omega)
          rw [Nat.succ_mul] at h7
          omega
        · have h7 := Nat.mul_le_mul_right p e
          omega
      · rw [if_neg d]
        rcases Nat.lt_or_ge q t with e | e
        · have h7 := Nat.mul_le_mul_right p (show q + 1 ≤ t by omega)
          rw [Nat.succ_mul] at h7
          omega
        · have h7 := Nat.mul_le_mul_right p e
          omega
  · have hp := o3 rfl
    rw [q_T6]
    show 2 * q_bl ((n - 1) / 2 ^ p + 1) - 1 + p < L ↔ _
    have hp0 := Nat.two_pow_pos p
    have hb0 : 0 < q_bl ((n - 1) / 2 ^ p + 1) := q_bl_pos (Nat.succ_pos _)
    have e1 : 2 * q_bl ((n - 1) / 2 ^ p + 1) - 1 + p < L ↔ q_bl ((n - 1) / 2 ^ p + 1) ≤ (L - p) / 2 := by omega
    rw [e1, q_bl_le]
    have hB0 := Nat.two_pow_pos ((L - p) / 2)
    by_cases c : (L - p) / 2 + p < 63
    · rw [if_pos c]
      have e2 := Nat.div_lt_iff_lt_mul (x := n - 1) (y := 2 ^ ((L - p) / 2) - 1) hp0
      generalize (2 ^ ((L - p) / 2) - 1) * 2 ^ p = X at e2 ⊢
      generalize (n - 1) / 2 ^ p = Y at e2 ⊢
      omega
    · rw [if_neg c]
      have e3 : (n - 1) / 2 ^ p ≤ 4611686018427387903 / 2 ^ p := Nat.div_le_div_right (by omega)
      have e4 := (q_sh6 (p := p) (by omega)).mp e3
      have e5 : 2 ^ (63 - p) ≤ 2 ^ ((L - p) / 2) := Nat.pow_le_pow_right (by decide) (by omega)
      have e6 : 2 ^ (63 - p) = 2 * 2 ^ (62 - p) := by rw [← Nat.pow_succ', show (62 - p).succ = 63 - p by omega]
      have e7 := Nat.two_pow_pos (62 - p)
      generalize (n - 1) / 2 ^ p = Y at e4 ⊢
      omega
  · obtain ⟨p1, p2⟩ := o4 rfl
    rw [q_T7]
    show q_gr p n * (p + 1) < L ↔ _
    have hg := (q_gr_le p1 hn).2
    obtain ⟨s1, s2⟩ := q_gr_spec (n := n) p1
    have e1 := Nat.le_div_iff_mul_le (x := q_gr p n) (y := L - 1) (show 0 < p + 1 by omega)
    have e2 : q_gr p n * (p + 1) < L ↔ q_gr p n ≤ (L - 1) / (p + 1) := by
      have h9 : 1 * 1 ≤ q_gr p n * (p + 1) := Nat.mul_le_mul hg (by omega)
      rw [e1]
      omega
    rw [e2]
    generalize (L - 1) / (p + 1) = Q
    by_cases c0 : Q = 0
    · rw [if_pos c0]
      omega
    · rw [if_neg c0]
      have e3 : q_gr p n ≤ Q ↔ n - 1 < 2 ^ (Q * p) := by
        constructor
        · intro h
          have h8 : p * q_gr p n ≤ Q * p := by rw [Nat.mul_comm Q p]; exact Nat.mul_le_mul_left p h
          exact Nat.lt_of_lt_of_le s1 (Nat.pow_le_pow_right (by decide) h8)
        · intro h
          rcases Nat.lt_or_ge Q (q_gr p n) with d | d
          · have h7 := s2 (by omega)
            have h8 : Q * p ≤ p * (q_gr p n - 1) := by rw [Nat.mul_comm Q p]; exact Nat.mul_le_mul_left p (by omega)
            have h9 : 2 ^ (Q * p) ≤ 2 ^ (p * (q_gr p n - 1)) := Nat.pow_le_pow_right (by decide) h8
            omega
          · exact d
      rw [e3]
      by_cases c1 : Q * p < 62
      · rw [if_pos c1]
        omega
      · rw [if_neg c1]
        have h9 : 2 ^ 62 ≤ 2 ^ (Q * p) := Nat.pow_le_pow_right (by decide) (by omega)
        omega
