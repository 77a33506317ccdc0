/-! The row of bits, as the class holds it: 64 words; bit i by its place. -/
def q_un (x : Int64) : Nat := x.toBitVec.toNat
theorem q_un_lt (x : Int64) : q_un x < 18446744073709551616 := x.toBitVec.isLt
theorem q_lN_un (x : Int64) : lN (q_un x) = x := wb_inj (by rw [wb_tb]; simp [q_un])
theorem q_un_lN {n : Nat} (h : n < 18446744073709551616) : q_un (lN n) = n := wb_tn h
def q_wb (w : Nat → Int64) (i : Nat) : Nat := q_un (w (i / 64)) / 2 ^ (63 - i % 64) % 2
theorem q_tb (m t : Nat) : m / 2 ^ t % 2 = (m.testBit t).toNat := (Nat.toNat_testBit m t).symm
theorem q_or_bit (m s t : Nat) : (m ||| 2 ^ s) / 2 ^ t % 2 = if t = s then 1 else m / 2 ^ t % 2 := by
  rw [q_tb, q_tb, Nat.testBit_or, Nat.testBit_two_pow]
  by_cases h : t = s
  · subst h; simp
  · rw [if_neg h]
    simp [show ¬ s = t from fun e => h e.symm]
theorem q_un_or {x : Int64} {s : Nat} (hs : s < 64) : q_un (x ||| lN (2 ^ s)) = q_un x ||| 2 ^ s := by
  have h2 : 2 ^ s < 2 ^ 64 := wb_lt2 hs
  have hx := q_un_lt x
  have e : x ||| lN (2 ^ s) = lN (q_un x ||| 2 ^ s) := by
    rw [← wb_or (by omega) h2, q_lN_un]
  rw [e, q_un_lN (Nat.or_lt_two_pow (n := 64) (by omega) h2)]
theorem q_setOne {w : Nat → Int64} {i : Nat} (hi : i < 4096) : ∃ w', j_X0_setOne w (nI i) = some w' ∧ ∀ j, j < 4096 → q_wb w' j = if j = i then 1 else q_wb w j := by
  refine ⟨vp_updL w (i / 64) (w (i / 64) ||| lN (2 ^ (63 - i % 64))), ?_, ?_⟩
  · unfold j_X0_setOne
    rw [if_neg (nI_pos (by omega)), if_neg (fun h9 => by have := (q_le (a := 4096) (by omega) (by omega)).mp h9; omega)]
    show jix (nI i / nI 64) 64 (jix (nI i / nI 64) 64 (some (vp_updL w (nI i / nI 64).toNatClampNeg ((w (nI i / nI 64).toNatClampNeg) ||| (lN 1 <<< ((nI 63 - (nI i - nI i / nI 64 * nI 64)).toInt64 &&& 63)))))) = _
    rw [q_rem (by omega) (by omega) (by omega), q_div (by omega) (by omega) (by omega), q_jix (by omega) (by omega), q_jix (by omega) (by omega), q_clamp (by omega), q_sub (by omega), q_lshl 1 (by omega), Nat.one_mul]
  · intro j hj
    unfold q_wb vp_updL
    by_cases e : j / 64 = i / 64
    · rw [if_pos e, q_un_or (by omega), q_or_bit, e]
      by_cases h : j = i
      · subst h; rw [if_pos rfl, if_pos rfl]
      · rw [if_neg (by omega), if_neg h]
    · rw [if_neg e, if_neg (fun h => e (by rw [h]))]
theorem q_i32bit (m : Nat) : nI m &&& (1 : Int32) = nI (m % 2) := by
  rw [pk_and (nI m) (m := 1) 1 rfl]
  congr 1
  show (BitVec.ofNat 32 m).toNat % 2 = m % 2
  rw [BitVec.toNat_ofNat]
  omega
theorem q_bitAt {w : Nat → Int64} {f : Nat → Nat} {n : Nat} (hf : ∀ i, i < 4096 → q_wb w i = f i) (hz : ∀ i, n ≤ i → f i = 0) (hn : n ≤ 4096) {i : Nat} (hi : i < 9223372036854775808) : j_X0_bitAt w (nI n) (lN i) = some (nI (f i)) := by
  unfold j_X0_bitAt
  rw [if_neg (fun h9 => by have := (q_llt hi (b := 0) (by omega)).mp h9; omega), q_i2l (by omega)]
  by_cases c : i < n
  · rw [if_pos ((q_llt hi (by omega)).mpr c)]
    show jix ((lN i / lN 64).toInt32) 64 (some (((((w ((lN i / lN 64).toInt32).toNatClampNeg).toUInt64 >>> (((lN 63 - (lN i - lN i / lN 64 * lN 64)).toInt32).toInt64.toUInt64 &&& Int64.toUInt64 63)).toInt64).toInt32) &&& (1 : Int32))) = _
    rw [q_lrem hi (by omega) (by omega), q_ldiv hi (by omega) (by omega), lN_i, q_jix (by omega) (by omega), q_clamp (by omega), q_lsub (by omega), lN_i]
    have hx := q_un_lt (w (i / 64))
    rw [← q_lN_un (w (i / 64)), q_ushl hx (by omega), lN_i, q_i32bit, ← hf i (by omega)]
    unfold q_wb
    rfl
  · rw [if_neg (fun h9 => c ((q_llt hi (by omega)).mp h9)), hz i (by omega)]
    rfl
theorem q_bitAtNeg {w : Nat → Int64} {en : Int32} {x : Int64} (h : x < 0) : j_X0_bitAt w en x = some (nI 0) := by
  unfold j_X0_bitAt
  rw [if_pos h]
  rfl
/-- ones of v's lowest bits laid over a row, the highest of them first -/
def q_W (f : Nat → Nat) (at_ v width : Nat) (k : Nat) : Nat → Nat := fun i => if at_ ≤ i ∧ i < at_ + k ∧ v / 2 ^ (width - 1 - (i - at_)) % 2 = 1 then 1 else f i
theorem q_writeL {f : Nat → Nat} {at_ v width : Nat} (hv : v < 18446744073709551616) (hw : width ≤ 64) (hat : at_ + width ≤ 4096) : ∀ (z k : Nat) (w : Nat → Int64), k ≤ width → width < k + z → (∀ i, i < 4096 → q_wb w i = q_W f at_ v width k i) → ∃ w', jL_X0_writeBits_3 (nI at_) (lN v) (nI width) z (nI k) w = some w' ∧ ∀ i, i < 4096 → q_wb w' i = q_W f at_ v width width i := by
  intro z
  induction z with
  | zero => intro k w h1 h2; omega
  | succ z ih =>
    intro k w h1 h2 hf
    show ∃ w', (if nI width ≤ nI k then some w else if ((((lN v).toUInt64 >>> (((nI width - nI 1) - nI k).toInt64.toUInt64 &&& Int64.toUInt64 63)).toInt64) &&& (1 : Int64)) = lN 1 then (j_X0_setOne w (nI at_ + nI k)).bind (fun v303 => jL_X0_writeBits_3 (nI at_) (lN v) (nI width) z (nI k + nI 1) v303) else jL_X0_writeBits_3 (nI at_) (lN v) (nI width) z (nI k + nI 1) w) = some w' ∧ _
    by_cases c : width ≤ k
    · rw [if_pos ((q_le (by omega) (by omega)).mpr c)]
      exact ⟨w, rfl, by rw [show k = width by omega] at hf; exact hf⟩
    · rw [if_neg (fun h9 => c ((q_le (by omega) (by omega)).mp h9)), q_sub (by omega), q_sub (by omega), wb_bit hv (by omega), nI_add, nI_add]
      by_cases b : v / 2 ^ (width - 1 - k) % 2 = 1
      · rw [if_pos (by rw [b])]
        obtain ⟨w1, e1, g1⟩ := q_setOne (w := w) (i := at_ + k) (by omega)
        rw [e1, Option.bind_some]
        refine ih (k + 1) w1 (by omega) (by omega) (fun i hi => ?_)
        rw [g1 i hi, hf i hi]
        unfold q_W
        by_cases e : i = at_ + k
        · rw [if_pos e, if_pos ⟨by omega, by omega, by rw [show i - at_ = k by omega]; exact b⟩]
        · rw [if_neg e]
          by_cases d : at_ ≤ i ∧ i < at_ + k ∧ v / 2 ^ (width - 1 - (i - at_)) % 2 = 1
          · rw [if_pos d, if_pos ⟨d.1, by omega, d.2.2⟩]
          · rw [if_neg d, if_neg (fun h => d ⟨h.1, by omega, h.2.2⟩)]
      · rw [if_neg (fun h9 => b ((q_leq (by omega) (by omega)).mp h9))]
        refine ih (k + 1) w (by omega) (by omega) (fun i hi => ?_)
        rw [hf i hi]
        unfold q_W
        by_cases d : at_ ≤ i ∧ i < at_ + k ∧ v / 2 ^ (width - 1 - (i - at_)) % 2 = 1
        · rw [if_pos d, if_pos ⟨d.1, by omega, d.2.2⟩]
        · rw [if_neg d, if_neg (fun h => d ⟨h.1, by
            rcases Nat.lt_or_ge i (at_ + k) with h9 | h9
            · exact h9
            · exfalso
              have e : i - at_ = k := by omega
              rw [e] at h
              exact b h.2.2, h.2.2⟩)]
theorem q_writeBits {w : Nat → Int64} {f : Nat → Nat} {at_ v width : Nat} (hv : v < 18446744073709551616) (hw : width ≤ 64) (hat : at_ + width ≤ 4096) (hf : ∀ i, i < 4096 → q_wb w i = f i) : ∃ w', j_X0_writeBits w (nI at_) (lN v) (nI width) = some w' ∧ ∀ i, i < 4096 → q_wb w' i = q_W f at_ v width width i := by
  unfold j_X0_writeBits
  refine q_writeL hv hw hat jF 0 w (by omega) (by unfold jF; omega) (fun i hi => ?_)
  rw [hf i hi]
  unfold q_W
  rw [if_neg (by omega)]
/-- a row with more behind its n bits -/
def q_ap (f : Nat → Nat) (n : Nat) (g : Nat → Nat) (l : Nat) : Nat → Nat := fun i => if i < n then f i else if i < n + l then g (i - n) else 0
/-- the k lowest bits of v, the highest first -/
def q_ms (v k : Nat) : Nat → Nat := fun i => v / 2 ^ (k - 1 - i) % 2
/-- what the class holds: the row f of n bits -/
def q_row (w : Nat → Int64) (f : Nat → Nat) (n : Nat) : Prop := (∀ i, i < 4096 → q_wb w i = f i) ∧ (∀ i, n ≤ i → f i = 0) ∧ n ≤ 4096 ∧ ∀ i, f i ≤ 1
theorem q_W_ap {f : Nat → Nat} {n v width : Nat} (hz : ∀ i, n ≤ i → f i = 0) : q_W f n v width width = q_ap f n (q_ms v width) width := by
  funext i
  unfold q_W q_ap q_ms
  by_cases h1 : i < n
  · rw [if_neg (by omega), if_pos h1]
  · rw [if_neg h1, hz i (by omega)]
    by_cases h2 : i < n + width
    · rw [if_pos h2]
      have := Nat.mod_lt (v / 2 ^ (width - 1 - (i - n))) (show 0 < 2 by omega)
      by_cases h3 : v / 2 ^ (width - 1 - (i - n)) % 2 = 1
      · rw [if_pos ⟨by omega, h2, h3⟩, h3]
      · rw [if_neg (fun h => h3 h.2.2)]
        omega
    · rw [if_neg (fun h => h2 h.2.1), if_neg h2]
theorem q_row_ap {w' : Nat → Int64} {w : Nat → Int64} {f g : Nat → Nat} {n l : Nat} (h : q_row w f n) (hg : ∀ i, g i ≤ 1) (hl : n + l ≤ 4096) (hw : ∀ i, i < 4096 → q_wb w' i = q_ap f n g l i) : q_row w' (q_ap f n g l) (n + l) := by
  refine ⟨hw, fun i hi => ?_, hl, fun i => ?_⟩
  · unfold q_ap
    rw [if_neg (by omega), if_neg (by omega)]
  · unfold q_ap
    split
    · exact h.2.2.2 i
    · split
      · exact hg _
      · omega
theorem q_ms_le (v k i : Nat) : q_ms v k i ≤ 1 := by
  unfold q_ms
  omega
theorem q_appendBits {w : Nat → Int64} {f : Nat → Nat} {n v width : Nat} (h : q_row w f n) (hv : v < 18446744073709551616) (hw : width ≤ 64) (hl : n + width ≤ 4096) : ∃ w', j_X0_appendBits w (nI n) (lN v) (nI width) = some (w', nI (n + width)) ∧ q_row w' (q_ap f n (q_ms v width) width) (n + width) := by
  obtain ⟨w', e, g⟩ := q_writeBits hv hw hl h.1
  refine ⟨w', ?_, q_row_ap h (q_ms_le v width) hl (by rw [← q_W_ap h.2.1]; exact g)⟩
  unfold j_X0_appendBits
  rw [e, Option.bind_some, nI_add]
theorem q_onesL {f : Nat → Nat} {n m : Nat} (hl : n + m < 4096) (hz : ∀ i, n ≤ i → f i = 0) : ∀ (z k : Nat) (w : Nat → Int64), k ≤ m → m < k + z → (∀ i, i < 4096 → q_wb w i = if n ≤ i ∧ i < n + k then 1 else f i) → ∃ w', jL_X0_appendOnesAndZero_2 (nI n) (lN m) z (nI k) w = some (w', nI (n + (m + 1))) ∧ ∀ i, i < 4096 → q_wb w' i = if n ≤ i ∧ i < n + m then 1 else f i := by
  intro z
  induction z with
  | zero => intro k w h1 h2; omega
  | succ z ih =>
    intro k w h1 h2 hf
    show ∃ w', (if lN m ≤ (nI k).toInt64 then some (w, nI n + ((lN m).toInt32 + nI 1)) else if nI 4096 ≤ nI k then some (w, nI n + ((lN m).toInt32 + nI 1)) else (j_X0_setOne w (nI n + nI k)).bind (fun v203 => jL_X0_appendOnesAndZero_2 (nI n) (lN m) z (nI k + nI 1) v203)) = some (w', _) ∧ _
    rw [q_i2l (by omega)]
    by_cases c : m ≤ k
    · rw [if_pos ((q_lle (by omega) (by omega)).mpr c), lN_i, nI_add, nI_add]
      exact ⟨w, rfl, by rw [show k = m by omega] at hf; exact hf⟩
    · rw [if_neg (fun h9 => c ((q_lle (by omega) (by omega)).mp h9)), if_neg (fun h9 => by have := (q_le (by omega) (by omega)).mp h9; omega), nI_add, nI_add]
      obtain ⟨w1, e1, g1⟩ := q_setOne (w := w) (i := n + k) (by omega)
      rw [e1, Option.bind_some]
      refine ih (k + 1) w1 (by omega) (by omega) (fun i hi => ?_)
      rw [g1 i hi, hf i hi]
      by_cases e : i = n + k
      · rw [if_pos e, if_pos (by omega)]
      · rw [if_neg e]
        by_cases d : n ≤ i ∧ i < n + k
        · rw [if_pos d, if_pos (by omega)]
        · rw [if_neg d, if_neg (by omega)]
/-- m ones and a zero -/
def q_un1 (m : Nat) : Nat → Nat := fun i => if i < m then 1 else 0
theorem q_un1_le (m i : Nat) : q_un1 m i ≤ 1 := by
  unfold q_un1
  split <;> omega
theorem q_appendOnes {w : Nat → Int64} {f : Nat → Nat} {n m : Nat} (h : q_row w f n) (hl : n + (m + 1) ≤ 4096) : ∃ w', j_X0_appendOnesAndZero w (nI n) (lN m) = some (w', nI (n + (m + 1))) ∧ q_row w' (q_ap f n (q_un1 m) (m + 1)) (n + (m + 1)) := by
  obtain ⟨w', e, g⟩ := q_onesL (f := f) (n := n) (m := m) (by omega) h.2.1 jF 0 w (by omega) (by unfold jF; omega) (fun i hi => by rw [h.1 i hi, if_neg (by omega)])
  refine ⟨w', e, q_row_ap h (q_un1_le m) hl (fun i hi => ?_)⟩
  rw [g i hi]
  unfold q_ap q_un1
  by_cases h1 : i < n
  · rw [if_neg (by omega), if_pos h1]
  · rw [if_neg h1, h.2.1 i (by omega)]
    by_cases h2 : i < n + m
    · rw [if_pos (by omega), if_pos (by omega), if_pos (by omega)]
    · rw [if_neg (by omega)]
      split
      · rw [if_neg (by omega)]
      · rfl
