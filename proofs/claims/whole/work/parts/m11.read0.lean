/-! Reading: bits, values, runs; class and reference. -/
def q_val (f : Nat → Nat) (c : Nat) : Nat → Nat
  | 0 => 0
  | k + 1 => 2 * q_val f c k + f (c + k)
theorem q_val_lt {f : Nat → Nat} (hf : ∀ i, f i ≤ 1) (c : Nat) : ∀ k, q_val f c k < 2 ^ k := by
  intro k
  induction k with
  | zero => exact Nat.one_pos
  | succ k ih =>
    show 2 * q_val f c k + f (c + k) < 2 ^ (k + 1)
    have := hf (c + k)
    rw [Nat.pow_succ]
    omega
theorem q_val_front (f : Nat → Nat) : ∀ (m c : Nat), q_val f c (m + 1) = f c * 2 ^ m + q_val f (c + 1) m := by
  intro m
  induction m with
  | zero => intro c; show 2 * 0 + f (c + 0) = f c * 2 ^ 0 + 0; simp
  | succ m ih =>
    intro c
    show 2 * q_val f c (m + 1) + f (c + (m + 1)) = f c * 2 ^ (m + 1) + (2 * q_val f (c + 1) m + f (c + 1 + m))
    rw [ih c, Nat.pow_succ, show c + (m + 1) = c + 1 + m by omega, Nat.mul_add, ← Nat.mul_assoc, ← Nat.mul_assoc, Nat.mul_comm 2 (f c), Nat.mul_assoc, Nat.mul_assoc, Nat.mul_comm 2 (2 ^ m)]
    omega
theorem q_readBit {w : Nat → Int64} {f : Nat → Nat} {n c : Nat} (h : q_row w f n) (hc : c < 1000000) : j_X0_readBit w (nI n) (nI c) = some (nI (f c), nI (c + 1)) := by
  unfold j_X0_readBit
  rw [q_i2l (by omega), q_bitAt h.1 h.2.1 h.2.2.1 (by omega), Option.bind_some, show (1 : Int32) = nI 1 from rfl, nI_add]
theorem q_readBitsL {w : Nat → Int64} {f : Nat → Nat} {n c width : Nat} (h : q_row w f n) (hc : c < 1000000) (hw : width ≤ 64) : ∀ (m z k x : Nat), k + m = width → m < z → jL_X0_readBits_6 w (nI n) (nI c) (nI width) z (lN x) (nI k) = some (lN (x * 2 ^ m + q_val f (c + k) m), nI (c + width)) := by
  intro m
  induction m with
  | zero =>
    intro z k x hk hz
    cases z with
    | zero => omega
    | succ z =>
      show (if nI width ≤ nI k then some (lN x, nI c + nI width) else _) = _
      rw [if_pos ((q_le (by omega) (by omega)).mpr (by omega)), nI_add, Nat.pow_zero, Nat.mul_one]
      rfl
  | succ m ih =>
    intro z k x hk hz
    cases z with
    | zero => omega
    | succ z =>
      show (if nI width ≤ nI k then _ else (j_X0_bitAt w (nI n) ((nI c + nI k).toInt64)).bind fun v602 => jL_X0_readBits_6 w (nI n) (nI c) (nI width) z ((lN 2 * lN x) + v602.toInt64) (nI k + nI 1)) = _
      rw [if_neg (fun h9 => by have := (q_le (by omega) (by omega)).mp h9; omega), nI_add, q_i2l (by omega), q_bitAt h.1 h.2.1 h.2.2.1 (by omega), Option.bind_some]
      have hf := h.2.2.2 (c + k)
      rw [q_i2l (by omega), lN_mul, lN_add, nI_add, ih z (k + 1) _ (by omega) (by omega), q_val_front f m (c + k), show c + (k + 1) = c + k + 1 by omega]
      congr 3
      rw [Nat.pow_succ, Nat.add_mul, Nat.mul_comm 2 x, Nat.mul_assoc, Nat.mul_comm 2 (2 ^ m), Nat.add_assoc]
theorem q_readBits {w : Nat → Int64} {f : Nat → Nat} {n c width x : Nat} (h : q_row w f n) (hc : c < 1000000) (hw : width ≤ 64) : j_X0_readBits w (nI n) (nI c) (lN x) (nI width) = some (lN (x * 2 ^ width + q_val f c width), nI (c + width)) := by
  unfold j_X0_readBits
  exact q_readBitsL h hc hw width jF 0 x (by omega) (by unfold jF; omega)
/-- how many bits in a row are b, from a on, of m at most -/
def q_rn (f : Nat → Nat) (b : Nat) : Nat → Nat → Nat
  | 0, _ => 0
  | m + 1, a => if f a = b then q_rn f b m (a + 1) + 1 else 0
theorem q_rn_le (f : Nat → Nat) (b : Nat) : ∀ m a, q_rn f b m a ≤ m := by
  intro m
  induction m with
  | zero => intro a; exact Nat.le_refl 0
  | succ m ih =>
    intro a
    show (if f a = b then q_rn f b m (a + 1) + 1 else 0) ≤ m + 1
    have := ih (a + 1)
    split <;> omega
theorem q_rn_stop (f : Nat → Nat) (b : Nat) : ∀ m a, q_rn f b m a < m → f (a + q_rn f b m a) ≠ b := by
  intro m
  induction m with
  | zero => intro a h; omega
  | succ m ih =>
    intro a h
    have e : q_rn f b (m + 1) a = if f a = b then q_rn f b m (a + 1) + 1 else 0 := rfl
    by_cases c : f a = b
    · rw [if_pos c] at e
      rw [e] at h ⊢
      rw [show a + (q_rn f b m (a + 1) + 1) = a + 1 + q_rn f b m (a + 1) by omega]
      exact ih (a + 1) (by omega)
    · rw [if_neg c] at e
      rw [e]
      exact c
theorem q_rn_all (f : Nat → Nat) (b : Nat) : ∀ m a i, i < q_rn f b m a → f (a + i) = b := by
  intro m
  induction m with
  | zero => intro a i h; exact absurd h (Nat.not_lt_zero i)
  | succ m ih =>
    intro a i h
    have e : q_rn f b (m + 1) a = if f a = b then q_rn f b m (a + 1) + 1 else 0 := rfl
    by_cases c : f a = b
    · rw [if_pos c] at e
      cases i with
      | zero => exact c
      | succ i =>
        rw [show a + (i + 1) = a + 1 + i by omega]
        exact ih (a + 1) i (by omega)
    · rw [if_neg c] at e
      omega
theorem q_nI_le1 {a : Nat} (h : a ≤ 1) : (nI a = (1 : Int32)) ↔ a = 1 := q_eq (b := 1) (by omega) (by omega)
theorem q_readOnesL {w : Nat → Int64} {f : Nat → Nat} {n : Nat} (h : q_row w f n) : ∀ (m z o a : Nat), a + m = n → o + m ≤ 4096 → m < z → jL_X0_readOnesAndZero_2 w (nI n) z (nI o) (nI a) = some (nI (o + q_rn f 1 m a), nI (a + q_rn f 1 m a + 1)) := by
  have hn := h.2.2.1
  intro m
  induction m with
  | zero =>
    intro z o a ha ho hz
    cases z with
    | zero => omega
    | succ z =>
      show (if nI 4096 < nI o then some (nI o, nI a) else (j_X0_readBit w (nI n) (nI a)).bind fun (v202, v203) => (if v202 = (1 : Int32) then _ else some (nI o, v203))) = _
      rw [if_neg (fun h9 => by have := (q_lt (by omega) (by omega)).mp h9; omega), q_readBit h (by omega), Option.bind_some]
      show (if nI (f a) = (1 : Int32) then _ else some (nI o, nI (a + 1))) = _
      rw [if_neg (by rw [h.2.1 a (by omega)]; decide)]
      rfl
  | succ m ih =>
    intro z o a ha ho hz
    cases z with
    | zero => omega
    | succ z =>
      have hf := h.2.2.2 a
      show (if nI 4096 < nI o then some (nI o, nI a) else (j_X0_readBit w (nI n) (nI a)).bind fun (v202, v203) => (if v202 = (1 : Int32) then jL_X0_readOnesAndZero_2 w (nI n) z (nI o + nI 1) v203 else some (nI o, v203))) = _
      rw [if_neg (fun h9 => by have := (q_lt (by omega) (by omega)).mp h9; omega), q_readBit h (by omega), Option.bind_some]
      show (if nI (f a) = (1 : Int32) then jL_X0_readOnesAndZero_2 w (nI n) z (nI o + nI 1) (nI (a + 1)) else some (nI o, nI (a + 1))) = _
      have e : q_rn f 1 (m + 1) a = if f a = 1 then q_rn f 1 m (a + 1) + 1 else 0 := rfl
      by_cases c : f a = 1
      · rw [if_pos ((q_nI_le1 hf).mpr c), nI_add, ih z (o + 1) (a + 1) (by omega) (by omega) (by omega), e, if_pos c]
        rw [show o + 1 + q_rn f 1 m (a + 1) = o + (q_rn f 1 m (a + 1) + 1) by omega, show a + 1 + q_rn f 1 m (a + 1) + 1 = a + (q_rn f 1 m (a + 1) + 1) + 1 by omega]
      · rw [if_neg (fun h9 => c ((q_nI_le1 hf).mp h9)), e, if_neg c]
        rfl
theorem q_readOnes {w : Nat → Int64} {f : Nat → Nat} {n a : Nat} (h : q_row w f n) (ha : a ≤ n) : j_X0_readOnesAndZero w (nI n) (nI a) = some (nI (q_rn f 1 (n - a) a), nI (a + q_rn f 1 (n - a) a + 1)) := by
  have hn := h.2.2.1
  unfold j_X0_readOnesAndZero
  have := q_readOnesL h (n - a) jF 0 a (by omega) (by omega) (by unfold jF; omega)
  rw [Nat.zero_add] at this
  exact this
/-! the reference -/
theorem q_next {rw : Nat → Int32} {f : Nat → Nat} {n c : Nat} {no : Int32} (h : q_rm rw f n) (hn : n ≤ 4096) (hc : c < n) : j_X2_next rw (nI n) (nI c) no = some (nI (f c), nI (c + 1), no) := by
  unfold j_X2_next
  rw [if_pos ((q_lt (by omega) (by omega)).mpr hc), show (1 : Int32) = nI 1 from rfl, nI_add, q_sub (by omega), show c + 1 - 1 = c by omega, q_jix (by omega) (by omega), q_clamp (by omega), h c hc]
theorem q_nextNo {rw : Nat → Int32} {n c : Nat} {no : Int32} (hn : n ≤ 4096) (hc : n ≤ c) (hc2 : c < 1000000) : j_X2_next rw (nI n) (nI c) no = some (nI 0, nI c, nI 1) := by
  unfold j_X2_next
  rw [if_neg (fun h9 => by have := (q_lt (by omega) (by omega)).mp h9; omega)]
  rfl
theorem q_someL {rw : Nat → Int32} {f : Nat → Nat} {n b : Nat} (h : q_rm rw f n) (hf : ∀ i, f i ≤ 1) (hn : n ≤ 4096) (hb : b ≤ 63) : ∀ (m z k c x : Nat), k + m = b → m < z → c ≤ n → (c + m ≤ n → jL_X2_some_16 rw (nI n) (nI b) z (lN x) (nI k) (nI c) (nI 0) = some (lN (x * 2 ^ m + q_val f c m), nI (c + m), nI 0)) ∧ (n < c + m → ∃ v fr, jL_X2_some_16 rw (nI n) (nI b) z (lN x) (nI k) (nI c) (nI 0) = some (v, fr, nI 1)) := by
  intro m
  induction m with
  | zero =>
    intro z k c x hk hz hc
    cases z with
    | zero => omega
    | succ z =>
      refine ⟨fun _ => ?_, fun h9 => by omega⟩
      show (if nI b ≤ nI k then some (lN x, nI c, nI 0) else _) = _
      rw [if_pos ((q_le (by omega) (by omega)).mpr (by omega)), Nat.pow_zero, Nat.mul_one]
      rfl
  | succ m ih =>
    intro z k c x hk hz hc
    cases z with
    | zero => omega
    | succ z =>
      have e0 : jL_X2_some_16 rw (nI n) (nI b) (z + 1) (lN x) (nI k) (nI c) (nI 0) = (j_X2_next rw (nI n) (nI c) (nI 0)).bind fun (v1603, v1604, v1605) => jL_X2_some_16 rw (nI n) (nI b) z ((lN 2 * lN x) + v1603.toInt64) (nI k + nI 1) v1604 v1605 := by
        show (if nI b ≤ nI k then _ else (if nI 0 = (0 : Int32) then _ else _)) = _
        rw [if_neg (fun h9 => by have := (q_le (by omega) (by omega)).mp h9; omega), if_pos (show nI 0 = (0 : Int32) from rfl)]
        rfl
      rw [e0]
      by_cases cn : c < n
      · rw [q_next h hn cn, Option.bind_some]
        have hfc := hf c
        show ((c + (m + 1) ≤ n → jL_X2_some_16 rw (nI n) (nI b) z ((lN 2 * lN x) + (nI (f c)).toInt64) (nI k + nI 1) (nI (c + 1)) (nI 0) = _) ∧ (n < c + (m + 1) → ∃ v fr, jL_X2_some_16 rw (nI n) (nI b) z ((lN 2 * lN x) + (nI (f c)).toInt64) (nI k + nI 1) (nI (c + 1)) (nI 0) = some (v, fr, nI 1)))
        rw [q_i2l (by omega), lN_mul, lN_add, nI_add]
        have hi := ih z (k + 1) (c + 1) (2 * x + f c) (by omega) (by omega) (by omega)
        refine ⟨fun h9 => ?_, fun h9 => hi.2 (by omega)⟩
        rw [hi.1 (by omega), q_val_front f m c, show c + 1 + m = c + (m + 1) by omega]
        congr 3
        rw [Nat.pow_succ, Nat.add_mul, Nat.mul_comm 2 x, Nat.mul_assoc, Nat.mul_comm 2 (2 ^ m), Nat.add_assoc]
      · rw [q_nextNo hn (by omega) (by omega), Option.bind_some]
        refine ⟨fun h9 => by omega, fun _ => ?_⟩
        show ∃ v fr, jL_X2_some_16 rw (nI n) (nI b) z ((lN 2 * lN x) + (nI 0).toInt64) (nI k + nI 1) (nI c) (nI 1) = some (v, fr, nI 1)
        cases z with
        | zero => omega
        | succ z =>
          refine ⟨(lN 2 * lN x) + (nI 0).toInt64, nI c, ?_⟩
          show (if nI b ≤ (nI k + nI 1) then some ((lN 2 * lN x) + (nI 0).toInt64, nI c, nI 1) else (if nI 1 = (0 : Int32) then _ else some ((lN 2 * lN x) + (nI 0).toInt64, nI c, nI 1))) = _
          rw [if_neg (show ¬ nI 1 = (0 : Int32) by decide)]
          split <;> rfl
theorem q_someM {rw : Nat → Int32} {f : Nat → Nat} {n b c : Nat} (h : q_rm rw f n) (hf : ∀ i, f i ≤ 1) (hn : n ≤ 4096) (hb : b ≤ 63) (hc : c ≤ n) : (c + b ≤ n → j_X2_some rw (nI n) (nI c) (nI 0) (nI b) = some (lN (q_val f c b), nI (c + b), nI 0)) ∧ (n < c + b → ∃ v fr, j_X2_some rw (nI n) (nI c) (nI 0) (nI b) = some (v, fr, nI 1)) := by
  unfold j_X2_some
  rw [q_i63, if_pos ((q_le (b := 63) (by omega) (by omega)).mpr hb), q_i0, q_l0]
  have := q_someL h hf hn hb b jF 0 c 0 (by omega) (by unfold jF; omega) hc
  rw [Nat.zero_mul, Nat.zero_add] at this
  exact this
theorem q_someBig {rw : Nat → Int32} {n b : Nat} {fr no : Int32} (hb : 63 < b) (hb2 : b < 1000000) : ∃ v, j_X2_some rw (nI n) fr no (nI b) = some (v, fr, nI 1) := by
  unfold j_X2_some
  rw [if_neg (fun h9 => by have := (q_le (b := 63) (by omega) (by omega)).mp h9; omega)]
  refine ⟨lN 0, ?_⟩
  show (if nI b ≤ nI 0 then some (lN 0, fr, nI 1) else (if nI 1 = (0 : Int32) then _ else some (lN 0, fr, nI 1))) = _
  rw [if_neg (fun h9 => by have := (q_le (by omega) (by omega)).mp h9; omega), if_neg (by decide)]
theorem q_runL {rw : Nat → Int32} {f : Nat → Nat} {n b : Nat} (h : q_rm rw f n) (hf : ∀ i, f i ≤ 1) (hn : n ≤ 4096) (hb : b ≤ 1) : ∀ (m z o a : Nat), a + m = n → o ≤ a → m < z → jL_X2_run_2 rw (nI n) (nI 0) (nI b) z (nI o) (nI a) = some (nI (o + q_rn f b m a), nI (a + q_rn f b m a), if a + q_rn f b m a < n then nI 0 else nI 1) := by
  intro m
  induction m with
  | zero =>
    intro z o a ha ho hz
    cases z with
    | zero => omega
    | succ z =>
      show (if nI 0 = (0 : Int32) then (if nI n ≤ nI a then (if nI a < nI n then some (nI o, nI a, nI 0) else some (nI o, nI a, nI 1)) else _) else _) = _
      rw [if_pos (show nI 0 = (0 : Int32) from rfl), if_pos ((q_le (by omega) (by omega)).mpr (by omega)), if_neg (fun h9 => by have := (q_lt (by omega) (by omega)).mp h9; omega)]
      have e : q_rn f b 0 a = 0 := rfl
      rw [e, if_neg (by omega)]
      rfl
  | succ m ih =>
    intro z o a ha ho hz
    cases z with
    | zero => omega
    | succ z =>
      have hfa := hf a
      show (if nI 0 = (0 : Int32) then (if nI n ≤ nI a then _ else (jix (nI a) 4096 (if (rw (nI a).toNatClampNeg) = nI b then jL_X2_run_2 rw (nI n) (nI 0) (nI b) z (nI o + nI 1) (nI a + nI 1) else (if nI a < nI n then some (nI o, nI a, nI 0) else some (nI o, nI a, nI 1))))) else _) = _
      rw [if_pos (show nI 0 = (0 : Int32) from rfl), if_neg (fun h9 => by have := (q_le (by omega) (by omega)).mp h9; omega), q_jix (by omega) (by omega), q_clamp (by omega), h a (by omega)]
      have e : q_rn f b (m + 1) a = if f a = b then q_rn f b m (a + 1) + 1 else 0 := rfl
      by_cases c : f a = b
      · rw [if_pos (by rw [c]), nI_add, nI_add]
        rw [ih z (o + 1) (a + 1) (by omega) (by omega) (by omega), e, if_pos c]
        rw [show o + 1 + q_rn f b m (a + 1) = o + (q_rn f b m (a + 1) + 1) by omega, show a + 1 + q_rn f b m (a + 1) = a + (q_rn f b m (a + 1) + 1) by omega]
      · rw [if_neg (fun h9 => c ((q_eq (by omega) (by omega)).mp h9)), if_pos ((q_lt (by omega) (by omega)).mpr (by omega)), e, if_neg c, if_pos (by omega)]
        rfl
