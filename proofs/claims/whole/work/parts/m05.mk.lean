/-! The reference's word: bits laid one behind the other. -/
theorem q_lsr {a k : Nat} (ha : a < 9223372036854775808) (hk : k < 64) : lN a >>> ((nI k).toInt64 &&& 63) = lN (a / 2 ^ k) := by
  have hd : a / 2 ^ k ≤ a := Nat.div_le_self _ _
  apply Int64.toInt_inj.mp
  have e : (lN a >>> ((nI k).toInt64 &&& 63)).toInt = (lN a).toInt >>> k := by
    have h := q_s64 k hk
    conv => rhs; rw [← h]
    exact BitVec.toInt_sshiftRight ..
  rw [e, Int.shiftRight_eq_div_pow, pf_lI (by omega), pf_lI (by omega)]
  rfl
def q_wo (wd : Nat → Int32) (g : Nat → Nat) (l : Nat) : Prop := ∀ i, i < l → wd i = nI (g i)
def q_cat (g : Nat → Nat) (l : Nat) (h : Nat → Nat) : Nat → Nat := fun i => if i < l then g i else h (i - l)
theorem q_wo.ext {wd : Nat → Int32} {g g' : Nat → Nat} {l : Nat} (h : q_wo wd g l) (e : ∀ i, i < l → g i = g' i) : q_wo wd g' l := fun i hi => by rw [h i hi, e i hi]
theorem q_bit {wd : Nat → Int32} {g : Nat → Nat} {l b : Nat} (h : q_wo wd g l) (hl : l < 4200) : j_X2_bit wd (nI l) (nI b) = some (upd wd l (nI b), nI (l + 1)) ∧ q_wo (upd wd l (nI b)) (q_cat g l (fun _ => b)) (l + 1) := by
  constructor
  · unfold j_X2_bit
    rw [q_jix hl (by omega), q_clamp (by omega), show (1 : Int32) = nI 1 from rfl, nI_add]
  · intro i hi
    unfold q_cat
    by_cases e : i = l
    · subst e; rw [pk_us, if_neg (by omega)]
    · rw [pk_un e, if_pos (by omega)]
      exact h i (by omega)
theorem q_lowL {v : Nat} (hv : v < 9223372036854775808) : ∀ (k z l : Nat) (g : Nat → Nat) (wd : Nat → Int32), k ≤ 64 → k < z → l + k ≤ 4200 → q_wo wd g l → ∃ wd', jL_X2_low_5 (lN v) z (nI k - nI 1) wd (nI l) = some (wd', nI (l + k)) ∧ q_wo wd' (q_cat g l (q_ms v k)) (l + k) := by
  intro k
  induction k with
  | zero =>
    intro z l g wd hk hz hl h
    cases z with
    | zero => omega
    | succ z =>
      show ∃ wd', (if nI 0 - nI 1 < (0 : Int32) then some (wd, nI l) else _) = some (wd', _) ∧ _
      rw [if_pos (by decide)]
      exact ⟨wd, rfl, h.ext (fun i hi => by unfold q_cat; rw [if_pos (by omega)])⟩
  | succ k ih =>
    intro z l g wd hk hz hl h
    cases z with
    | zero => omega
    | succ z =>
      show ∃ wd', (if nI (k + 1) - nI 1 < (0 : Int32) then some (wd, nI l) else (j_X2_bit wd (nI l) (((lN v >>> ((nI (k + 1) - nI 1).toInt64 &&& 63)) &&& (1 : Int64)).toInt32)).bind fun (v502, v503) => jL_X2_low_5 (lN v) z (nI (k + 1) - nI 1 + (-1 : Int32)) v502 v503) = some (wd', _) ∧ _
      rw [q_sub (by omega), if_neg (nI_pos (by omega)), show k + 1 - 1 = k from rfl, q_lsr hv (by omega), wb_a1 (Nat.lt_of_le_of_lt (Nat.div_le_self _ _) (by omega)), lN_i]
      obtain ⟨e1, g1⟩ := q_bit (b := v / 2 ^ k % 2) h (by omega)
      rw [e1, Option.bind_some]
      obtain ⟨wd', e2, g2⟩ := ih z (l + 1) _ _ (by omega) (by omega) (by omega) g1
      refine ⟨wd', ?_, ?_⟩
      · have e3 : nI k + (-1 : Int32) = nI k - nI 1 := (Int32.sub_eq_add_neg ..).symm
        show jL_X2_low_5 (lN v) z (nI k + (-1 : Int32)) _ _ = _
        rw [e3, e2, show l + 1 + k = l + (k + 1) by omega]
      · rw [show l + (k + 1) = l + 1 + k by omega]
        refine g2.ext (fun i hi => ?_)
        unfold q_cat q_ms
        by_cases a : i < l
        · rw [if_pos (by omega), if_pos a, if_pos a]
        · by_cases b : i = l
          · subst b
            rw [if_pos (by omega), if_neg (by omega), if_neg (by omega), show k + 1 - 1 - (i - i) = k by omega]
          · rw [if_neg (by omega), if_neg (by omega), show k - 1 - (i - (l + 1)) = k + 1 - 1 - (i - l) by omega]
theorem q_low {v : Nat} (hv : v < 9223372036854775808) {k l : Nat} {g : Nat → Nat} {wd : Nat → Int32} (hk : k ≤ 64) (hl : l + k ≤ 4200) (h : q_wo wd g l) : ∃ wd', j_X2_low wd (nI l) (lN v) (nI k) = some (wd', nI (l + k)) ∧ q_wo wd' (q_cat g l (q_ms v k)) (l + k) := by
  unfold j_X2_low
  exact q_lowL hv k jF l g wd hk (by unfold jF; omega) hl h
/-- the codeword of kind 1 -/
def q_ga (n : Nat) : Nat → Nat := fun i => if i < q_bl n - 1 then 0 else n / 2 ^ (2 * q_bl n - 2 - i) % 2
theorem q_doubL {v b : Nat} (hv : v < 9223372036854775808) (hb : b ≤ 64) : ∀ (m z k l : Nat) (g : Nat → Nat) (wd : Nat → Int32), k + m = b → m < z → l + m + b ≤ 4200 → q_wo wd g l → ∃ wd', jL_X2_doubled_8 (lN v) (nI b) z (nI k) wd (nI l) = some (wd', nI (l + m + b)) ∧ q_wo wd' (q_cat g l (q_cat (fun _ => 0) m (q_ms v b))) (l + m + b) := by
  intro m
  induction m with
  | zero =>
    intro z k l g wd hk hz hl h
    cases z with
    | zero => omega
    | succ z =>
      show ∃ wd', (if nI b ≤ nI k then (j_X2_low wd (nI l) (lN v) (nI b)).bind (fun (v802, v803) => some (v802, v803)) else _) = some (wd', _) ∧ _
      rw [if_pos ((q_le (by omega) (by omega)).mpr (by omega))]
      obtain ⟨wd', e, g'⟩ := q_low hv hb (by omega) h
      rw [e]
      refine ⟨wd', rfl, g'.ext (fun i hi => ?_)⟩
      unfold q_cat
      split
      · rfl
      · rw [if_neg (by omega)]; rfl
  | succ m ih =>
    intro z k l g wd hk hz hl h
    cases z with
    | zero => omega
    | succ z =>
      show ∃ wd', (if nI b ≤ nI k then _ else (j_X2_bit wd (nI l) (nI 0)).bind fun (v804, v805) => jL_X2_doubled_8 (lN v) (nI b) z (nI k + nI 1) v804 v805) = some (wd', _) ∧ _
      rw [if_neg (fun h9 => by have := (q_le (by omega) (by omega)).mp h9; omega), nI_add]
      obtain ⟨e1, g1⟩ := q_bit (b := 0) h (by omega)
      rw [e1, Option.bind_some]
      obtain ⟨wd', e2, g2⟩ := ih z (k + 1) (l + 1) _ _ (by omega) (by omega) (by omega) g1
      refine ⟨wd', ?_, ?_⟩
      · show jL_X2_doubled_8 (lN v) (nI b) z (nI (k + 1)) _ _ = _
        rw [e2, show l + 1 + m + b = l + (m + 1) + b by omega]
      · rw [show l + (m + 1) + b = l + 1 + m + b by omega]
        refine g2.ext (fun i hi => ?_)
        unfold q_cat
        by_cases a : i < l
        · rw [if_pos (by omega), if_pos a, if_pos a]
        · by_cases c : i = l
          · subst c
            rw [if_pos (by omega), if_neg (by omega), if_neg (by omega), if_pos (by omega)]
          · rw [if_neg (by omega), if_neg a]
            by_cases d : i - (l + 1) < m
            · rw [if_pos d, if_pos (by omega)]
            · rw [if_neg d, if_neg (by omega), show i - (l + 1) - m = i - l - (m + 1) by omega]
theorem q_doubled {v : Nat} (h0 : 0 < v) (hv : v < 9223372036854775808) {l : Nat} {g : Nat → Nat} {wd : Nat → Int32} (hl : l + 130 ≤ 4200) (h : q_wo wd g l) : ∃ wd', j_X2_doubled wd (nI l) (lN v) = some (wd', nI (l + (2 * q_bl v - 1))) ∧ q_wo wd' (q_cat g l (q_ga v)) (l + (2 * q_bl v - 1)) := by
  have hb : q_bl v ≤ 63 := q_bl_le.mpr hv
  have hb0 := q_bl_pos h0
  unfold j_X2_doubled
  rw [q_bitsOf hv, Option.bind_some]
  obtain ⟨wd', e, g'⟩ := q_doubL hv (b := q_bl v) (by omega) (q_bl v - 1) jF 1 l g wd (by omega) (by unfold jF; omega) (by omega) h
  refine ⟨wd', ?_, ?_⟩
  · show jL_X2_doubled_8 _ _ jF (nI 1) wd (nI l) = _
    rw [e, show l + (q_bl v - 1) + q_bl v = l + (2 * q_bl v - 1) by omega]
  · rw [show l + (2 * q_bl v - 1) = l + (q_bl v - 1) + q_bl v by omega]
    refine g'.ext (fun i hi => ?_)
    unfold q_cat q_ga q_ms
    split
    · rfl
    · by_cases d : i - l < q_bl v - 1
      · rw [if_pos d, if_pos d]
      · rw [if_neg d, if_neg d, show q_bl v - 1 - (i - l - (q_bl v - 1)) = 2 * q_bl v - 2 - (i - l) by omega]
theorem q_onesML {m : Nat} : ∀ (r z k l : Nat) (g : Nat → Nat) (wd : Nat → Int32), k + r = m → m < 9223372036854775808 → r < z → l + r + 1 ≤ 4200 → q_wo wd g l → ∃ wd', jL_X2_ones_2 (lN m) z (lN k) wd (nI l) = some (wd', nI (l + (r + 1))) ∧ q_wo wd' (q_cat g l (q_un1 r)) (l + (r + 1)) := by
  intro r
  induction r with
  | zero =>
    intro z k l g wd hk hm hz hl h
    cases z with
    | zero => omega
    | succ z =>
      show ∃ wd', (if lN m ≤ lN k then (j_X2_bit wd (nI l) (nI 0)).bind (fun (v202, v203) => some (v202, v203)) else _) = some (wd', _) ∧ _
      rw [if_pos ((q_lle (by omega) (by omega)).mpr (by omega))]
      obtain ⟨e1, g1⟩ := q_bit (b := 0) h (by omega)
      rw [e1]
      exact ⟨_, rfl, g1⟩
  | succ r ih =>
    intro z k l g wd hk hm hz hl h
    cases z with
    | zero => omega
    | succ z =>
      show ∃ wd', (if lN m ≤ lN k then _ else (j_X2_bit wd (nI l) (nI 1)).bind fun (v204, v205) => jL_X2_ones_2 (lN m) z (lN k + lN 1) v204 v205) = some (wd', _) ∧ _
      rw [if_neg (fun h9 => by have := (q_lle (by omega) (by omega)).mp h9; omega), lN_add]
      obtain ⟨e1, g1⟩ := q_bit (b := 1) h (by omega)
      rw [e1, Option.bind_some]
      obtain ⟨wd', e2, g2⟩ := ih z (k + 1) (l + 1) _ _ (by omega) hm (by omega) (by omega) g1
      refine ⟨wd', ?_, ?_⟩
      · show jL_X2_ones_2 (lN m) z (lN (k + 1)) _ _ = _
        rw [e2, show l + 1 + (r + 1) = l + (r + 1 + 1) by omega]
      · rw [show l + (r + 1 + 1) = l + 1 + (r + 1) by omega]
        refine g2.ext (fun i hi => ?_)
        unfold q_cat q_un1
        by_cases a : i < l
        · rw [if_pos (by omega), if_pos a, if_pos a]
        · by_cases c : i = l
          · subst c
            rw [if_pos (by omega), if_neg (by omega), if_neg (by omega), if_pos (by omega)]
          · rw [if_neg (by omega), if_neg a]
            by_cases d : i - (l + 1) < r
            · rw [if_pos d, if_pos (by omega)]
            · rw [if_neg d, if_neg (by omega)]
theorem q_onesM {m l : Nat} {g : Nat → Nat} {wd : Nat → Int32} (hl : l + m + 1 ≤ 4200) (h : q_wo wd g l) : ∃ wd', j_X2_ones wd (nI l) (lN m) = some (wd', nI (l + (m + 1))) ∧ q_wo wd' (q_cat g l (q_un1 m)) (l + (m + 1)) := by
  unfold j_X2_ones
  exact q_onesML m jF 0 l g wd (by omega) (by omega) (by unfold jF; omega) hl h
