/-! Codewords for all kinds; put, in class and reference. -/
theorem q_catL {g h : Nat → Nat} {l i : Nat} (hi : i < l) : q_cat g l h i = g i := if_pos hi
theorem q_catR {g h : Nat → Nat} {l i : Nat} (hi : l ≤ i) : q_cat g l h i = h (i - l) := if_neg (Nat.not_lt.mpr hi)
theorem q_gcat (g : Nat → Nat) (l b p v : Nat) (G : Nat → Nat) : q_cat (q_cat (q_cat g l (fun _ => b)) (l + 1) (q_ms v p)) (l + 1 + p) G = q_cat g l (q_cat (fun i => if i = 0 then b else q_ms v p (i - 1)) (p + 1) G) := by
  funext i
  by_cases a : i < l
  · rw [q_catL (show i < l + 1 + p by omega), q_catL (show i < l + 1 by omega), q_catL a, q_catL a]
  · by_cases e : i = l
    · subst e
      rw [q_catL (show i < i + 1 + p by omega), q_catL (show i < i + 1 by omega), q_catR (Nat.le_refl i), q_catR (Nat.le_refl i), q_catL (show i - i < p + 1 by omega)]
      show b = if i - i = 0 then b else _
      rw [if_pos (by omega)]
    · by_cases d : i < l + 1 + p
      · rw [q_catL d, q_catR (show l + 1 ≤ i by omega), q_catR (show l ≤ i by omega), q_catL (show i - l < p + 1 by omega)]
        show q_ms v p (i - (l + 1)) = if i - l = 0 then b else q_ms v p (i - l - 1)
        rw [if_neg (by omega), show i - (l + 1) = i - l - 1 by omega]
      · rw [q_catR (show l + 1 + p ≤ i by omega), q_catR (show l ≤ i by omega), q_catR (show p + 1 ≤ i - l by omega), show i - (l + 1 + p) = i - l - (p + 1) by omega]
theorem q_grpM {p : Nat} (h1 : 1 ≤ p) (h2 : p ≤ 16) : ∀ (r z v l : Nat) (g : Nat → Nat) (wd : Nat → Int32), 1 ≤ r → v < 2 ^ (p * r) → (1 < r → 2 ^ (p * (r - 1)) ≤ v) → v < 9223372036854775808 → r < z → l + r * (p + 1) ≤ 4200 → q_wo wd g l → ∃ wd', jL_X2_byGroups_8 (nI p) z (lN v) (nI 1) wd (nI l) = some (wd', nI (l + r * (p + 1))) ∧ q_wo wd' (q_cat g l (q_gc p r v)) (l + r * (p + 1)) := by
  intro r
  induction r with
  | zero => intro z v l g wd hr; omega
  | succ r ih =>
    intro z v l g wd hr hv1 hv2 hv hz hl h
    have hl2 : (r + 1) * (p + 1) = p + 1 + r * (p + 1) := by rw [Nat.succ_mul]; omega
    rw [hl2] at hl ⊢
    have hpp := Nat.two_pow_pos p
    have hd : v / 2 ^ p ≤ v := Nat.div_le_self _ _
    cases z with
    | zero => omega
    | succ z =>
      have key : ∀ b : Nat, ∃ w2, j_X2_bit wd (nI l) (nI b) = some (upd wd l (nI b), nI (l + 1)) ∧ j_X2_low (upd wd l (nI b)) (nI (l + 1)) (lN v) (nI p) = some (w2, nI (l + 1 + p)) ∧ q_wo w2 (q_cat (q_cat g l (fun _ => b)) (l + 1) (q_ms v p)) (l + 1 + p) := by
        intro b
        obtain ⟨e1, g1⟩ := q_bit (b := b) h (by omega)
        obtain ⟨w2, e2, g2⟩ := q_low (v := v) (k := p) hv (by omega) (by omega) g1
        exact ⟨w2, e1, e2, g2⟩
      show ∃ wd', (if nI 1 = (0 : Int32) then some (wd, nI l) else (if (lN v >>> ((nI p).toInt64 &&& 63)) = lN 0 then ((j_X2_bit wd (nI l) (nI 0)).bind fun (v804, v805) => ((j_X2_low v804 v805 (lN v) (nI p)).bind fun (v806, v807) => (jL_X2_byGroups_8 (nI p) z (lN v >>> ((nI p).toInt64 &&& 63)) (0 : Int32) v806 v807))) else ((j_X2_bit wd (nI l) (nI 1)).bind fun (v809, v810) => ((j_X2_low v809 v810 (lN v) (nI p)).bind fun (v811, v812) => (jL_X2_byGroups_8 (nI p) z (lN v >>> ((nI p).toInt64 &&& 63)) (nI 1) v811 v812))))) = some (wd', _) ∧ _
      rw [if_neg (by decide), q_lsr hv (by omega)]
      by_cases c : r = 0
      · subst c
        rw [Nat.zero_add, Nat.mul_one] at hv1
        have e0 : v / 2 ^ p = 0 := Nat.div_eq_of_lt hv1
        obtain ⟨w2, e1, e2, g2⟩ := key 0
        cases z with
        | zero => omega
        | succ z =>
          have e3 : jL_X2_byGroups_8 (nI p) (z + 1) (lN (v / 2 ^ p)) (0 : Int32) w2 (nI (l + 1 + p)) = some (w2, nI (l + 1 + p)) := by
            show (if (0 : Int32) = (0 : Int32) then _ else _) = _
            rw [if_pos rfl]
          rw [if_pos (by rw [e0])]
          simp only [e1, e2, e3, Option.bind_some]
          refine ⟨w2, by rw [show l + 1 + p = l + (p + 1 + 0 * (p + 1)) by omega], ?_⟩
          rw [show l + (p + 1 + 0 * (p + 1)) = l + 1 + p by omega]
          refine g2.ext (fun i hi => ?_)
          refine (q_catL (h := q_gc p 0 (v / 2 ^ p)) hi).symm.trans ?_
          rw [q_gcat]
          show _ = q_cat g l (q_cat (fun i => if i = 0 then (if (0 : Nat) = 0 then 0 else 1) else q_ms v p (i - 1)) (p + 1) (q_gc p 0 (v / 2 ^ p))) i
          rw [if_pos (rfl : (0 : Nat) = 0)]
      · have hv3 := hv2 (by omega)
        have hpm : p * 1 ≤ p * (r + 1 - 1) := Nat.mul_le_mul_left p (by omega)
        have hpw : 2 ^ p ≤ 2 ^ (p * (r + 1 - 1)) := Nat.pow_le_pow_right (by decide) (by omega)
        have e0 : 0 < v / 2 ^ p := Nat.div_pos (by omega) hpp
        obtain ⟨w2, e1, e2, g2⟩ := key 1
        have hv4 : v / 2 ^ p < 2 ^ (p * r) := (Nat.div_lt_iff_lt_mul hpp).mpr (by rw [← Nat.pow_add, show p * r + p = p * (r + 1) by rw [Nat.mul_succ]]; exact hv1)
        obtain ⟨w3, e3, g3⟩ := ih z (v / 2 ^ p) (l + 1 + p) _ w2 (by omega) hv4 (fun h9 => (Nat.le_div_iff_mul_le hpp).mpr (by
          rw [← Nat.pow_add, show p * (r - 1) + p = p * (r + 1 - 1) by rw [← Nat.mul_succ]; congr 1; omega]; exact hv3)) (by omega) (by omega) (by omega) g2
        rw [if_neg (fun h9 => by have := (q_leq (by omega) (by omega)).mp h9; omega)]
        simp only [e1, e2, Option.bind_some, e3]
        refine ⟨w3, by rw [show l + 1 + p + r * (p + 1) = l + (p + 1 + r * (p + 1)) by omega], ?_⟩
        rw [show l + (p + 1 + r * (p + 1)) = l + 1 + p + r * (p + 1) by omega]
        refine g3.ext (fun i hi => ?_)
        rw [q_gcat]
        show _ = q_cat g l (q_cat (fun i => if i = 0 then (if r = 0 then 0 else 1) else q_ms v p (i - 1)) (p + 1) (q_gc p r (v / 2 ^ p))) i
        rw [if_neg c]
theorem q_gr_spec {p n : Nat} (h1 : 1 ≤ p) : n - 1 < 2 ^ (p * q_gr p n) ∧ (1 < q_gr p n → 2 ^ (p * (q_gr p n - 1)) ≤ n - 1) := by
  have hm := Nat.div_add_mod (q_bl (n - 1) + p - 1) p
  have hr := Nat.mod_lt (q_bl (n - 1) + p - 1) (show p > 0 by omega)
  constructor
  · refine q_bl_le.mp ?_
    unfold q_gr
    split
    · omega
    · have : (q_bl (n - 1) + p - 1) / p ≤ 1 := by omega
      have h2 : p * ((q_bl (n - 1) + p - 1) / p) ≤ p * 1 := Nat.mul_le_mul_left p this
      omega
  · intro hg
    refine q_bl_gt.mp ?_
    unfold q_gr at hg ⊢
    by_cases c : 1 < (q_bl (n - 1) + p - 1) / p
    · rw [if_pos c]
      have : p * ((q_bl (n - 1) + p - 1) / p - 1) = p * ((q_bl (n - 1) + p - 1) / p) - p := by rw [Nat.mul_sub, Nat.mul_one]
      have h3 : p * 2 ≤ p * ((q_bl (n - 1) + p - 1) / p) := Nat.mul_le_mul_left p c
      omega
    · rw [if_neg c] at hg
      omega
/-- the codeword of n by kind k -/
def q_cw (k p n : Nat) : Nat → Nat := if k = 0 then q_un1 (n - 1) else if k = 1 then q_ga n else if k = 2 then q_cat (q_ga (q_bl n)) (2 * q_bl (q_bl n) - 1) (q_ms n (q_bl n - 1)) else if k = 3 then q_omc n else if k = 4 then q_zc n else if k = 5 then q_cat (q_un1 ((n - 1) / p)) ((n - 1) / p + 1) (q_tr p n) else if k = 6 then q_cat (q_ga ((n - 1) / 2 ^ p + 1)) (2 * q_bl ((n - 1) / 2 ^ p + 1) - 1) (q_ms (n - 1) p) else q_gc p (q_gr p n) (n - 1)
theorem q_appC {fb : Nat → Int64} (hfb : ∀ i, i < 89 → fb i = lN (q_F i)) {w : Nat → Int64} {f : Nat → Nat} {m k p n : Nat} (h : q_row w f m) (ho : q_ok k p) (hn : q_num n) (hl : m + q_len k p n ≤ 4096) : ∃ w', j_X1_appendCodeword w (nI m) fb (nI k) (nI p) (lN n) = some (w', nI (m + q_len k p n)) ∧ q_row w' (q_ap f m (q_cw k p n) (q_len k p n)) (m + q_len k p n) := by
  obtain ⟨n1, n2⟩ := id hn
  obtain ⟨k7, o1, o2, o3, o4⟩ := ho
  have hb : q_bl n ≤ 63 := q_bl_le.mpr (by omega)
  have hb0 : 0 < q_bl n := q_bl_pos (by omega)
  have hbb0 : 0 < q_bl (q_bl n) := q_bl_pos hb0
  unfold j_X1_appendCodeword
  rcases (show k = 0 ∨ k = 1 ∨ k = 2 ∨ k = 3 ∨ k = 4 ∨ k = 5 ∨ k = 6 ∨ k = 7 by omega) with rfl | rfl | rfl | rfl | rfl | rfl | rfl | rfl
  · have el : q_len 0 p n = n := rfl
    rw [el] at hl ⊢
    obtain ⟨w1, e1, r1⟩ := q_appendOnes (m := n - 1) h (by omega)
    rw [show n - 1 + 1 = n by omega] at e1 r1
    rw [if_pos (by decide), show (1 : Int64) = lN 1 from rfl, q_lsub n1, e1]
    exact ⟨w1, rfl, r1⟩
  · have el : q_len 1 p n = 2 * q_bl n - 1 := rfl
    rw [el] at hl ⊢
    obtain ⟨w1, e1, r1⟩ := q_appendGamma h n1 (by omega) hl
    rw [if_neg (by decide), if_pos (by decide), e1]
    exact ⟨w1, rfl, r1⟩
  · have el : q_len 2 p n = 2 * q_bl (q_bl n) - 1 + q_bl n - 1 := rfl
    rw [el] at hl ⊢
    obtain ⟨w1, e1, r1⟩ := q_appendGamma (v := q_bl n) h hb0 (by omega) (by omega)
    obtain ⟨w2, e2, r2⟩ := q_appendBits (v := n) (width := q_bl n - 1) r1 (by omega) (by omega) (by omega)
    rw [q_ap_cat] at r2
    rw [if_neg (by decide), if_neg (by decide), if_pos (by decide)]
    have ed : nI (q_bl n) - (1 : Int32) = nI (q_bl n - 1) := by rw [show (1 : Int32) = nI 1 from rfl, q_sub (by omega)]
    simp only [q_bitLength (show n < 9223372036854775808 by omega), Option.bind_some, q_i2l (show q_bl n < 2147483648 by omega), e1, ed, e2]
    rw [show m + (2 * q_bl (q_bl n) - 1) + (q_bl n - 1) = m + (2 * q_bl (q_bl n) - 1 + q_bl n - 1) by omega] at r2 ⊢
    rw [show 2 * q_bl (q_bl n) - 1 + (q_bl n - 1) = 2 * q_bl (q_bl n) - 1 + q_bl n - 1 by omega] at r2
    exact ⟨w2, rfl, r2⟩
  · have el : q_len 3 p n = q_om n := rfl
    rw [el] at hl ⊢
    obtain ⟨w1, e1, r1⟩ := q_appendOmega h n1 (by omega) hl
    rw [if_neg (by decide), if_neg (by decide), if_neg (by decide), if_pos (by decide), e1]
    exact ⟨w1, rfl, r1⟩
  · have el : q_len 4 p n = q_fi n + 2 := rfl
    rw [el] at hl ⊢
    obtain ⟨w1, e1, r1⟩ := q_appendFib hfb h hn hl
    rw [if_neg (by decide), if_neg (by decide), if_neg (by decide), if_neg (by decide), if_pos (by decide), e1]
    exact ⟨w1, rfl, r1⟩
  · have el : q_len 5 p n = q_gl p n := rfl
    rw [el] at hl ⊢
    obtain ⟨w1, e1, r1⟩ := q_appendGolomb h (o2 rfl).1 (o2 rfl).2 hn hl
    rw [if_neg (by decide), if_neg (by decide), if_neg (by decide), if_neg (by decide), if_neg (by decide), if_pos (by decide), e1]
    exact ⟨w1, rfl, r1⟩
  · have el : q_len 6 p n = 2 * q_bl ((n - 1) / 2 ^ p + 1) - 1 + p := rfl
    rw [el] at hl ⊢
    have hp := o3 rfl
    have hd : (n - 1) / 2 ^ p ≤ n - 1 := Nat.div_le_self _ _
    obtain ⟨w1, e1, r1⟩ := q_appendGamma (v := (n - 1) / 2 ^ p + 1) h (Nat.succ_pos _) (by omega) (by omega)
    obtain ⟨w2, e2, r2⟩ := q_appendBits (v := n - 1) (width := p) r1 (by omega) (by omega) (by omega)
    rw [q_ap_cat] at r2
    rw [if_neg (by decide), if_neg (by decide), if_neg (by decide), if_neg (by decide), if_neg (by decide), if_neg (by decide), if_pos (by decide)]
    have ea : (lN n - (1 : Int64)) = lN (n - 1) := by rw [show (1 : Int64) = lN 1 from rfl, q_lsub n1]
    have eb : lN ((n - 1) / 2 ^ p) + (1 : Int64) = lN ((n - 1) / 2 ^ p + 1) := by rw [show (1 : Int64) = lN 1 from rfl, lN_add]
    simp only [ea, q_lsr (show n - 1 < 9223372036854775808 by omega) (show p < 64 by omega), eb, e1, e2, Option.bind_some]
    rw [show m + (2 * q_bl ((n - 1) / 2 ^ p + 1) - 1) + p = m + (2 * q_bl ((n - 1) / 2 ^ p + 1) - 1 + p) by omega] at r2 ⊢
    exact ⟨w2, rfl, r2⟩
  · have el : q_len 7 p n = q_gr p n * (p + 1) := rfl
    rw [el] at hl ⊢
    obtain ⟨p1, p2⟩ := o4 rfl
    have hg := q_gr_le p1 hn
    obtain ⟨w1, e1, r1⟩ := q_grpA (G := q_gr p n) p1 p2 (by omega) (q_gr p n) jF 1 (n - 1) m w f (by omega) (by unfold jF; omega) (by omega) h hl
    rw [if_neg (by decide), if_neg (by decide), if_neg (by decide), if_neg (by decide), if_neg (by decide), if_neg (by decide), if_neg (by decide)]
    have e2 : j_X1_appendGroups w (nI m) (nI p) (lN n) = some (w1, nI (m + q_gr p n * (p + 1))) := by
      unfold j_X1_appendGroups
      rw [q_groupsOf p1 p2 hn, Option.bind_some, show (1 : Int64) = lN 1 from rfl, q_lsub n1]
      exact e1
    rw [e2]
    exact ⟨w1, rfl, r1⟩
