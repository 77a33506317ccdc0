/-! Kinds 3, 4 and 7. -/
theorem q_omf_pos : ∀ (g n : Nat), 1 ≤ q_omf g n := by
  intro g
  cases g with
  | zero => intro n; exact Nat.le_refl 1
  | succ g =>
    intro n
    show 1 ≤ if n ≤ 1 then 1 else q_bl n + q_omf g (q_bl n - 1)
    split
    · exact Nat.le_refl 1
    · have := q_bl_pos (n := n) (by omega)
      omega
/-- the groups of kind 3, without the 0 at last -/
def q_omg : Nat → Nat → Nat → Nat
  | 0, _, _ => 0
  | g + 1, n, i => if n ≤ 1 then 0 else if i < q_omf g (q_bl n - 1) - 1 then q_omg g (q_bl n - 1) i else q_ms n (q_bl n) (i - (q_omf g (q_bl n - 1) - 1))
theorem q_omA {n len : Nat} : ∀ (g rest at_ st z : Nat) (w : Nat → Int64) (h : Nat → Nat), q_omt g rest → 0 < rest → rest < 9223372036854775808 → at_ = n + (q_omf g rest - 1) → at_ ≤ 4096 → st + g ≤ 8 → 8 < st + z → (∀ i, i < 4096 → q_wb w i = h i) → (∀ i, n ≤ i → i < at_ → h i = 0) → ∃ w', jL_X1_appendOmega_24 (nI n) (nI len) z (nI at_) (lN rest) (nI st) w = some (w', nI (n + len)) ∧ ∀ i, i < 4096 → q_wb w' i = if n ≤ i ∧ i < at_ then q_omg g rest (i - n) else h i := by
  intro g
  induction g with
  | zero =>
    intro rest at_ st z w h ht h0 hr ha ha2 hs hz hw hh
    have ht : rest ≤ 1 := ht
    have e1 : q_omf 0 rest = 1 := rfl
    cases z with
    | zero => omega
    | succ z =>
      show ∃ w', (if nI 8 ≤ nI st then some (w, nI n + nI len) else if lN rest ≤ lN 1 then some (w, nI n + nI len) else _) = some (w', _) ∧ _
      refine ⟨w, ?_, fun i hi => ?_⟩
      · by_cases c : nI 8 ≤ nI st
        · rw [if_pos c, nI_add]
        · rw [if_neg c, if_pos ((q_lle hr (by omega)).mpr ht), nI_add]
      · rw [hw i hi, if_neg (by omega)]
  | succ g ih =>
    intro rest at_ st z w h ht h0 hr ha ha2 hs hz hw hh
    have ep := q_omf_pos g (q_bl rest - 1)
    have eo : q_omf (g + 1) rest = if rest ≤ 1 then 1 else q_bl rest + q_omf g (q_bl rest - 1) := rfl
    cases z with
    | zero => omega
    | succ z =>
      show ∃ w', (if nI 8 ≤ nI st then some (w, nI n + nI len) else if lN rest ≤ lN 1 then some (w, nI n + nI len) else (j_X1_bitLength (lN rest)).bind fun v2403 => ((j_X0_writeBits w (nI at_ - v2403) (lN rest) v2403).bind fun v2404 => jL_X1_appendOmega_24 (nI n) (nI len) z (nI at_ - v2403) ((v2403 - nI 1).toInt64) (nI st + nI 1) v2404)) = some (w', _) ∧ _
      rw [if_neg (fun h9 => by have := (q_le (by omega) (by omega)).mp h9; omega)]
      by_cases c : rest ≤ 1
      · rw [if_pos c] at eo
        rw [if_pos ((q_lle hr (by omega)).mpr c), nI_add]
        refine ⟨w, rfl, fun i hi => ?_⟩
        rw [hw i hi, if_neg (by omega)]
      · rw [if_neg c] at eo
        have hb1 : q_bl rest ≤ 63 := q_bl_le.mpr hr
        have hb2 : 1 < q_bl rest := q_bl_gt.mpr (by omega)
        rcases ht with ht | ht
        · exact absurd ht c
        · rw [if_neg (fun h9 => c ((q_lle hr (by omega)).mp h9)), q_bitLength hr, Option.bind_some, q_sub (show q_bl rest ≤ at_ by omega), q_sub (show 1 ≤ q_bl rest by omega), q_i2l (by omega), nI_add]
          obtain ⟨w1, e1, g1⟩ := q_writeBits (at_ := at_ - q_bl rest) (v := rest) (width := q_bl rest) (by omega) (by omega) (by omega) hw
          rw [e1, Option.bind_some]
          obtain ⟨w2, e2, g2⟩ := ih (q_bl rest - 1) (at_ - q_bl rest) (st + 1) z w1 _ ht (by omega) (by omega) (by omega) (by omega) (by omega) (by omega) g1 (fun i h1 h2 => by
            unfold q_W
            rw [if_neg (by omega)]
            exact hh i h1 (by omega))
          refine ⟨w2, e2, fun i hi => ?_⟩
          rw [g2 i hi]
          by_cases a : n ≤ i ∧ i < at_ - q_bl rest
          · rw [if_pos a, if_pos (by omega)]
            show _ = if rest ≤ 1 then 0 else if i - n < q_omf g (q_bl rest - 1) - 1 then q_omg g (q_bl rest - 1) (i - n) else _
            rw [if_neg c, if_pos (by omega)]
          · rw [if_neg a]
            by_cases b : n ≤ i ∧ i < at_
            · rw [if_pos b]
              show _ = if rest ≤ 1 then 0 else if i - n < q_omf g (q_bl rest - 1) - 1 then _ else q_ms rest (q_bl rest) (i - n - (q_omf g (q_bl rest - 1) - 1))
              rw [if_neg c, if_neg (by omega)]
              unfold q_W q_ms
              have e : i - (at_ - q_bl rest) = i - n - (q_omf g (q_bl rest - 1) - 1) := by omega
              rw [e]
              have hm := Nat.mod_lt (rest / 2 ^ (q_bl rest - 1 - (i - n - (q_omf g (q_bl rest - 1) - 1)))) (show 0 < 2 by omega)
              by_cases d : rest / 2 ^ (q_bl rest - 1 - (i - n - (q_omf g (q_bl rest - 1) - 1))) % 2 = 1
              · rw [if_pos ⟨by omega, by omega, d⟩, d]
              · rw [if_neg (fun h9 => d h9.2.2), hh i b.1 b.2]
                omega
            · rw [if_neg b]
              unfold q_W
              rw [if_neg (by omega)]
/-- the codeword of kind 3 -/
def q_omc (n : Nat) : Nat → Nat := fun i => if i < q_om n - 1 then q_omg 4 n i else 0
theorem q_omg_le : ∀ (g n i : Nat), q_omg g n i ≤ 1 := by
  intro g
  induction g with
  | zero => intro n i; exact Nat.zero_le 1
  | succ g ih =>
    intro n i
    show (if n ≤ 1 then 0 else if i < q_omf g (q_bl n - 1) - 1 then q_omg g (q_bl n - 1) i else q_ms n (q_bl n) (i - (q_omf g (q_bl n - 1) - 1))) ≤ 1
    split
    · omega
    · split
      · exact ih _ _
      · exact q_ms_le _ _ _
theorem q_omc_le (n i : Nat) : q_omc n i ≤ 1 := by
  unfold q_omc
  split
  · exact q_omg_le _ _ _
  · omega
theorem q_appendOmega {w : Nat → Int64} {f : Nat → Nat} {m n : Nat} (h : q_row w f m) (h0 : 0 < n) (hn : n < 9223372036854775808) (hl : m + q_om n ≤ 4096) : ∃ w', j_X1_appendOmega w (nI m) (lN n) = some (w', nI (m + q_om n)) ∧ q_row w' (q_ap f m (q_omc n) (q_om n)) (m + q_om n) := by
  have hp : 1 ≤ q_om n := q_omf_pos 4 n
  obtain ⟨w', e, g⟩ := q_omA (n := m) (len := q_om n) 4 n (m + (q_om n - 1)) 0 jF w f (q_omt4 hn) h0 hn rfl (by omega) (by omega) (by unfold jF; omega) h.1 (fun i h1 _ => h.2.1 i h1)
  refine ⟨w', ?_, q_row_ap h (q_omc_le n) hl (fun i hi => ?_)⟩
  · unfold j_X1_appendOmega
    rw [q_omegaLength h0 hn, Option.bind_some, nI_add, show (1 : Int32) = nI 1 from rfl, q_sub (by omega), show m + q_om n - 1 = m + (q_om n - 1) by omega]
    exact e
  · rw [g i hi]
    unfold q_ap q_omc
    by_cases a : i < m
    · rw [if_neg (by omega), if_pos a]
    · rw [if_neg a]
      by_cases b : i < m + (q_om n - 1)
      · rw [if_pos (by omega), if_pos (by omega), if_pos (by omega)]
      · rw [if_neg (by omega), h.2.1 i (by omega)]
        split
        · rw [if_neg (by omega)]
        · rfl
theorem q_chI {md x3 : Int32} {v b : Nat} (hv : v < 9223372036854775808) (hb : b ≤ 63) (hb0 : 1 ≤ b) (K : Int32 → Int64 → (Nat → Int32) → Option ((Nat → Int32) × Int32)) : ∀ (m k e z : Nat) (wd : Nat → Int32), k + m = b → m ≤ e → e ≤ 4200 → m < z → ∃ wd', jL_X2_chain_39 md x3 (lN v) (nI b) K z (nI e) (nI k) wd = K (nI (e - m)) (lN (b - 1)) wd' ∧ ∀ i, wd' i = if e - m ≤ i ∧ i < e then nI (v / 2 ^ (k + (e - 1 - i)) % 2) else wd i := by
  intro m
  induction m with
  | zero =>
    intro k e z wd hk hm he hz
    cases z with
    | zero => omega
    | succ z =>
      show ∃ wd', (if nI b ≤ nI k then K (nI e) ((nI b - nI 1).toInt64) wd else _) = _ ∧ _
      rw [if_pos ((q_le (by omega) (by omega)).mpr (by omega)), q_sub hb0, q_i2l (by omega)]
      exact ⟨wd, rfl, fun i => by rw [if_neg (by omega)]⟩
  | succ m ih =>
    intro k e z wd hk hm he hz
    cases z with
    | zero => omega
    | succ z =>
      show ∃ wd', (if nI b ≤ nI k then _ else jix (nI e + -nI 1) 4200 (jL_X2_chain_39 md x3 (lN v) (nI b) K z (nI e + -nI 1) (nI k + nI 1) (upd wd (nI e + -nI 1).toNatClampNeg (((lN v >>> ((nI k).toInt64 &&& 63)) &&& (1 : Int64)).toInt32)))) = _ ∧ _
      rw [if_neg (fun h9 => by have := (q_le (by omega) (by omega)).mp h9; omega), q_neg (by omega), q_jix (by omega) (by omega), q_clamp (by omega), nI_add, q_lsr hv (by omega), wb_a1 (Nat.lt_of_le_of_lt (Nat.div_le_self _ _) (by omega)), lN_i]
      obtain ⟨wd', e2, g2⟩ := ih (k + 1) (e - 1) z (upd wd (e - 1) (nI (v / 2 ^ k % 2))) (by omega) (by omega) (by omega) (by omega)
      refine ⟨wd', by rw [e2, show e - 1 - m = e - (m + 1) by omega], fun i => ?_⟩
      rw [g2 i]
      by_cases a : e - 1 - m ≤ i ∧ i < e - 1
      · rw [if_pos a, if_pos (by omega), show k + 1 + (e - 1 - 1 - i) = k + (e - 1 - i) by omega]
      · rw [if_neg a]
        by_cases c : i = e - 1
        · subst c
          rw [pk_us, if_pos (by omega), show k + (e - 1 - (e - 1)) = k by omega]
        · rw [pk_un c, if_neg (by omega)]
theorem q_chO {md : Int32} {len : Nat} : ∀ (g v e z : Nat) (wd : Nat → Int32), q_omt g v → 0 < v → v < 9223372036854775808 → e = q_omf g v - 1 → e ≤ 4200 → g < z → ∃ wd', jL_X2_chain_22 md (nI len) z (nI e) (lN v) wd = some (wd', nI len) ∧ ∀ i, wd' i = if i < e then nI (q_omg g v i) else wd i := by
  intro g
  induction g with
  | zero =>
    intro v e z wd ht h0 hv he he2 hz
    have ht : v ≤ 1 := ht
    have e1 : q_omf 0 v = 1 := rfl
    cases z with
    | zero => omega
    | succ z =>
      show ∃ wd', (if lN v = lN 1 then some (wd, nI len) else _) = _ ∧ _
      rw [if_pos (by rw [show v = 1 by omega])]
      exact ⟨wd, rfl, fun i => by rw [if_neg (by omega)]⟩
  | succ g ih =>
    intro v e z wd ht h0 hv he he2 hz
    have ep := q_omf_pos g (q_bl v - 1)
    have eo : q_omf (g + 1) v = if v ≤ 1 then 1 else q_bl v + q_omf g (q_bl v - 1) := rfl
    cases z with
    | zero => omega
    | succ z =>
      show ∃ wd', (if lN v = lN 1 then some (wd, nI len) else (j_X2_bitsOf (lN v)).bind fun v2202 => jL_X2_chain_39 md (nI len) (lN v) v2202 (jL_X2_chain_22 md (nI len) z) jF (nI e) (nI 0) wd) = _ ∧ _
      by_cases c : v ≤ 1
      · rw [if_pos c] at eo
        rw [if_pos (by rw [show v = 1 by omega])]
        exact ⟨wd, rfl, fun i => by rw [if_neg (by omega)]⟩
      · rw [if_neg c] at eo
        have hb1 : q_bl v ≤ 63 := q_bl_le.mpr hv
        have hb2 : 1 < q_bl v := q_bl_gt.mpr (by omega)
        rcases ht with ht | ht
        · exact absurd ht c
        · rw [if_neg (fun h9 => c (by have := (q_leq hv (by omega)).mp h9; omega)), q_bitsOf hv, Option.bind_some]
          obtain ⟨w1, e1, g1⟩ := q_chI (md := md) (x3 := nI len) hv hb1 (by omega) (jL_X2_chain_22 md (nI len) z) (q_bl v) 0 e jF wd (by omega) (by omega) he2 (by unfold jF; omega)
          rw [e1]
          obtain ⟨w2, e2, g2⟩ := ih (q_bl v - 1) (e - q_bl v) z w1 ht (by omega) (by omega) (by omega) (by omega) (by omega)
          refine ⟨w2, e2, fun i => ?_⟩
          rw [g2 i]
          by_cases a : i < e - q_bl v
          · rw [if_pos a, if_pos (by omega)]
            show _ = nI (if v ≤ 1 then 0 else if i < q_omf g (q_bl v - 1) - 1 then q_omg g (q_bl v - 1) i else _)
            rw [if_neg c, if_pos (by omega)]
          · rw [if_neg a, g1 i]
            by_cases b : i < e
            · rw [if_pos (by omega), if_pos b]
              show _ = nI (if v ≤ 1 then 0 else if i < q_omf g (q_bl v - 1) - 1 then _ else q_ms v (q_bl v) (i - (q_omf g (q_bl v - 1) - 1)))
              rw [if_neg c, if_neg (by omega)]
              unfold q_ms
              rw [show q_bl v - 1 - (i - (q_omf g (q_bl v - 1) - 1)) = 0 + (e - 1 - i) by omega]
            · rw [if_neg (by omega), if_neg b]
theorem q_chain {wd : Nat → Int32} {md : Int32} {n : Nat} (h0 : 0 < n) (hn : n < 9223372036854775808) : ∃ wd', j_X2_chain wd md (lN n) = some (wd', nI (q_om n)) ∧ q_wo wd' (q_omc n) (q_om n) := by
  have hp : 1 ≤ q_om n := q_omf_pos 4 n
  have hq := q_om_le hn
  obtain ⟨w', e, g⟩ := q_chO (md := md) (len := q_om n) 4 n (q_om n - 1) jF (upd wd (q_om n - 1) (nI 0)) (q_omt4 hn) h0 hn rfl (by omega) (by unfold jF; omega)
  refine ⟨w', ?_, fun i hi => ?_⟩
  · unfold j_X2_chain
    rw [q_byChain h0 hn, Option.bind_some, lN_i, show (1 : Int32) = nI 1 from rfl, q_sub hp, q_jix (by omega) (by omega), q_clamp (by omega)]
    exact e
  · rw [g i]
    unfold q_omc
    by_cases a : i < q_om n - 1
    · rw [if_pos a, if_pos a]
    · rw [if_neg a, if_neg a, show i = q_om n - 1 by omega, pk_us]
