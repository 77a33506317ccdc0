/-! Kind 6's edges, kind 5's counts; count, first, begun. -/
theorem q_subneg {a b : Nat} (ha : a < 1000000) (hb : b < 1000000) (h : a ≤ b) : (nI a - nI b) < (1 : Int32) := by
  rw [Int32.lt_iff_toInt_lt, pk_sub_toInt (by omega) (by omega)]
  have : (1 : Int32).toInt = 1 := by decide
  omega
theorem q_ed6 {sm : Nat → Int64} {p L : Nat} (hp : p ≤ 40) (hL : L ≤ 200) : q_ed 6 p L sm := by
  have e : ∀ a4, j_X2_edge sm (nI 6) (nI p) (nI L) a4 = (if (nI L - nI p) < (1 : Int32) then (some (0 : Int64)) else (if ((nI L - nI p) - (nI L - nI p) / (2 : Int32) * (2 : Int32)) = (0 : Int32) then (some (0 : Int64)) else (if (((nI L - nI p) + (1 : Int32)) / (2 : Int32)) ≤ ((63 : Int32) - nI p) then (if (62 : Int32) < (((nI L - nI p) + (1 : Int32)) / (2 : Int32)) then (if a4 = (0 : Int32) then ((j_X2_firstOf (((nI L - nI p) + (1 : Int32)) / (2 : Int32))).bind fun v18 => (some (((v18 - (1 : Int64)) <<< ((nI p).toInt64 &&& 63)) + (1 : Int64)))) else (some (((((4611686018427387904 : Int64) >>> ((nI p).toInt64 &&& 63)) - (1 : Int64)) <<< ((nI p).toInt64 &&& 63)) + ((1 : Int64) <<< ((nI p).toInt64 &&& 63))))) else ((j_X2_lastOf (((nI L - nI p) + (1 : Int32)) / (2 : Int32))).bind fun v19 => (if v19 ≤ ((4611686018427387904 : Int64) >>> ((nI p).toInt64 &&& 63)) then ((j_X2_lastOf (((nI L - nI p) + (1 : Int32)) / (2 : Int32))).bind fun v21 => (if a4 = (0 : Int32) then ((j_X2_firstOf (((nI L - nI p) + (1 : Int32)) / (2 : Int32))).bind fun v23 => (some (((v23 - (1 : Int64)) <<< ((nI p).toInt64 &&& 63)) + (1 : Int64)))) else (some (((v21 - (1 : Int64)) <<< ((nI p).toInt64 &&& 63)) + ((1 : Int64) <<< ((nI p).toInt64 &&& 63)))))) else (if a4 = (0 : Int32) then ((j_X2_firstOf (((nI L - nI p) + (1 : Int32)) / (2 : Int32))).bind fun v25 => (some (((v25 - (1 : Int64)) <<< ((nI p).toInt64 &&& 63)) + (1 : Int64)))) else (some (((((4611686018427387904 : Int64) >>> ((nI p).toInt64 &&& 63)) - (1 : Int64)) <<< ((nI p).toInt64 &&& 63)) + ((1 : Int64) <<< ((nI p).toInt64 &&& 63)))))))) else (some (0 : Int64))))) := by
    intro a4
    unfold j_X2_edge
    rw [if_neg (show ¬ nI 6 = (0 : Int32) by decide), if_pos (show (4 : Int32) ≤ nI 6 by decide), if_neg (show ¬ nI 6 = (4 : Int32) by decide), if_pos (show nI 6 = (6 : Int32) by decide)]
  unfold q_ed
  rw [q_T6, q_T6]
  by_cases c0 : L ≤ p
  · have E0 : j_X2_edge sm (nI 6) (nI p) (nI L) (nI 0) = some (lN 0) := by
      rw [e, if_pos (q_subneg (by omega) (by omega) c0)]
      rfl
    rw [E0, show (L - p) / 2 = 0 by omega, show (L + 1 - p) / 2 = 0 by omega]
    exact ⟨fun h9 => absurd h9 (Nat.lt_irrefl _), fun _ => rfl⟩
  · have hs : nI L - nI p = nI (L - p) := q_sub (by omega)
    have hx : ¬ nI (L - p) < nI 1 := fun h9 => by have := (q_lt (by omega) (by omega)).mp h9; omega
    by_cases c1 : (L - p) % 2 = 0
    · have E0 : j_X2_edge sm (nI 6) (nI p) (nI L) (nI 0) = some (lN 0) := by
        rw [e, hs, q_i1, q_i2, q_rem (by omega) (by omega) (by omega), q_i0, if_neg hx, if_pos (by rw [c1])]
        rfl
      rw [E0, show (L + 1 - p) / 2 = (L - p) / 2 by omega]
      exact ⟨fun h9 => absurd h9 (Nat.lt_irrefl _), fun _ => rfl⟩
    · obtain ⟨b, hb⟩ : ∃ b, L - p = 2 * b + 1 := ⟨(L - p) / 2, by omega⟩
      have hy : ¬ nI ((2 * b + 1) % 2) = nI 0 := fun h9 => by have := (q_eq (by omega) (by omega)).mp h9; omega
      have e2 : ∀ a4, j_X2_edge sm (nI 6) (nI p) (nI L) a4 = (if nI (b + 1) ≤ nI (63 - p) then (if nI 62 < nI (b + 1) then (if a4 = nI 0 then ((j_X2_firstOf (nI (b + 1))).bind fun v18 => (some (((v18 - lN 1) <<< ((nI p).toInt64 &&& 63)) + lN 1))) else (some (((lN (4611686018427387904 / 2 ^ p) - lN 1) <<< ((nI p).toInt64 &&& 63)) + (lN 1 <<< ((nI p).toInt64 &&& 63))))) else ((j_X2_lastOf (nI (b + 1))).bind fun v19 => (if v19 ≤ lN (4611686018427387904 / 2 ^ p) then ((j_X2_lastOf (nI (b + 1))).bind fun v21 => (if a4 = nI 0 then ((j_X2_firstOf (nI (b + 1))).bind fun v23 => (some (((v23 - lN 1) <<< ((nI p).toInt64 &&& 63)) + lN 1))) else (some (((v21 - lN 1) <<< ((nI p).toInt64 &&& 63)) + (lN 1 <<< ((nI p).toInt64 &&& 63)))))) else (if a4 = nI 0 then ((j_X2_firstOf (nI (b + 1))).bind fun v25 => (some (((v25 - lN 1) <<< ((nI p).toInt64 &&& 63)) + lN 1))) else (some (((lN (4611686018427387904 / 2 ^ p) - lN 1) <<< ((nI p).toInt64 &&& 63)) + (lN 1 <<< ((nI p).toInt64 &&& 63)))))))) else (some (lN 0))) := by
        intro a4
        rw [e, hs, hb, q_i1, q_i2, q_rem (by omega) (by omega) (by omega), q_i0, if_neg (by rw [← hb]; exact hx), if_neg hy, nI_add, q_div (by omega) (by omega) (by omega), show (2 * b + 1 + 1) / 2 = b + 1 by omega, q_i63, q_sub (by omega), q_i62, q_lM, q_lsr (by omega) (by omega), q_l1, q_l0]
      rw [show (L - p) / 2 = b by omega, show (L + 1 - p) / 2 = b + 1 by omega]
      by_cases c2 : b + p < 63
      · have hX : 4611686018427387904 / 2 ^ p = 2 ^ (62 - p) := Nat.pow_div (x := 2) (m := 62) (n := p) (by omega) (by decide)
        have hX2 : 2 ^ (62 - p) * 2 ^ p = 4611686018427387904 := by rw [← Nat.pow_add, show 62 - p + p = 62 by omega]
        have hb0 := Nat.two_pow_pos b
        have hb1 : 2 ^ (b + 1) = 2 * 2 ^ b := by rw [Nat.pow_succ]; omega
        have hp0 := Nat.two_pow_pos p
        have hbp : 2 ^ b * 2 ^ p ≤ 4611686018427387904 := by
          rw [← Nat.pow_add]
          exact Nat.pow_le_pow_right (n := 2) (by decide) (show b + p ≤ 62 by omega)
        have hF : (j_X2_firstOf (nI (b + 1))).bind (fun v18 => (some (((v18 - lN 1) <<< ((nI p).toInt64 &&& 63)) + lN 1))) = some (lN ((2 ^ b - 1) * 2 ^ p + 1)) := by
          rw [q_firstOf (by omega) (by omega), Option.bind_some, show b + 1 - 1 = b from rfl, q_lsub (by omega), q_lshl _ (by omega), lN_add]
        have hY : ((lN (4611686018427387904 / 2 ^ p) - lN 1) <<< ((nI p).toInt64 &&& 63)) + (lN 1 <<< ((nI p).toInt64 &&& 63)) = lN 4611686018427387904 := by
          have h0 := Nat.two_pow_pos (62 - p)
          rw [hX, q_lsub (by omega), q_lshl _ (by omega), q_lshl _ (by omega), lN_add, ← Nat.add_mul, show 2 ^ (62 - p) - 1 + 1 = 2 ^ (62 - p) by omega, hX2]
        have hle : nI (b + 1) ≤ nI (63 - p) := (q_le (by omega) (by omega)).mpr (by omega)
        have E0 : j_X2_edge sm (nI 6) (nI p) (nI L) (nI 0) = some (lN ((2 ^ b - 1) * 2 ^ p + 1)) := by
          rw [e2, if_pos hle, if_pos (show nI 0 = nI 0 from rfl), hF, q_lastOf (by omega), Option.bind_some, Option.bind_some, if_pos (show nI 0 = nI 0 from rfl)]
          simp only [ite_self]
        have E1 : j_X2_edge sm (nI 6) (nI p) (nI L) (nI 1) = some (lN (if b + 1 + p < 63 then (2 ^ (b + 1) - 1) * 2 ^ p else 4611686018427387904)) := by
          rw [e2, if_pos hle, if_neg (show ¬ nI 1 = nI 0 by decide), hY, q_lastOf (by omega), Option.bind_some, Option.bind_some, if_neg (show ¬ nI 1 = nI 0 by decide)]
          by_cases d : b + 1 ≤ 62
          · rw [if_neg (fun h9 => by have := (q_lt (by omega) (by omega)).mp h9; omega), if_pos d, hX]
            have hbl : 2 ^ (b + 1) ≤ 2 ^ 62 := Nat.pow_le_pow_right (by decide) d
            have hXl : 2 ^ (62 - p) ≤ 2 ^ 62 := Nat.pow_le_pow_right (by decide) (by omega)
            by_cases d2 : b + 1 + p < 63
            · have hm : 2 ^ (b + 1) ≤ 2 ^ (62 - p) := Nat.pow_le_pow_right (by decide) (by omega)
              rw [if_pos d2, if_pos ((q_lle (by omega) (by omega)).mpr (by omega)), q_lsub (by omega), q_lshl _ (by omega), q_lshl _ (by omega), lN_add, ← Nat.add_mul, show 2 ^ (b + 1) - 1 - 1 + 1 = 2 ^ (b + 1) - 1 by omega]
            · have hm : 2 ^ (b + 1) = 2 * 2 ^ (62 - p) := by
                rw [← Nat.pow_succ', show (62 - p).succ = b + 1 by omega]
              have hm2 : 2 ^ 1 ≤ 2 ^ (62 - p) := Nat.pow_le_pow_right (by decide) (by omega)
              rw [if_neg d2, if_neg (fun h9 => by have := (q_lle (by omega) (by omega)).mp h9; omega)]
          · rw [if_pos ((q_lt (by omega) (by omega)).mpr (by omega)), if_neg (by omega)]
        rw [E0, E1, if_pos c2]
        have hmul : (2 ^ b - 1) * 2 ^ p ≤ 2 ^ b * 2 ^ p := Nat.mul_le_mul_right _ (Nat.sub_le _ _)
        have hmul2 := Nat.add_mul (2 ^ b - 1) 1 (2 ^ p)
        rw [Nat.one_mul, Nat.sub_add_cancel hb0] at hmul2
        by_cases d2 : b + 1 + p < 63
        · have h8 : (2 ^ b - 1) * 2 ^ p < (2 ^ (b + 1) - 1) * 2 ^ p := Nat.mul_lt_mul_of_pos_right (by omega) hp0
          rw [if_pos d2, if_pos d2]
          exact ⟨fun _ => ⟨rfl, rfl⟩, fun h9 => by omega⟩
        · rw [if_neg d2, if_neg d2]
          exact ⟨fun _ => ⟨rfl, rfl⟩, fun h9 => by omega⟩
      · have E0 : j_X2_edge sm (nI 6) (nI p) (nI L) (nI 0) = some (lN 0) := by
          rw [e2, if_neg (fun h9 => by have := (q_le (by omega) (by omega)).mp h9; omega)]
        rw [E0, if_neg c2, if_neg (by omega)]
        exact ⟨fun h9 => absurd h9 (Nat.lt_irrefl _), fun _ => rfl⟩
theorem q_ed_all {sm : Nat → Int64} (hsm : ∀ i, 1 ≤ i → i < 92 → sm i = lN (q_F (i - 1))) {k p L : Nat} (ho : q_ok k p) (h5 : k ≠ 5) (hL : L ≤ 200) : q_ed k p L sm := by
  obtain ⟨k7, o1, o2, o3, o4⟩ := ho
  rcases (show k = 0 ∨ (1 ≤ k ∧ k ≤ 3) ∨ k = 4 ∨ k = 6 ∨ k = 7 by omega) with rfl | ⟨h1, h3⟩ | rfl | rfl | rfl
  · exact q_ed0 hL
  · exact q_ed13 hsm h1 h3 hL
  · exact q_ed4 hsm hL
  · exact q_ed6 (o3 rfl) hL
  · exact q_ed7 (o4 rfl).1 (o4 rfl).2 hL
theorem q_cnt5 {sm : Nat → Int64} {p L : Nat} (p1 : 1 ≤ p) (p2 : p ≤ 1000000) (hL : L ≤ 200) : j_X2_countOf sm (nI 5) (nI p) (nI L) = some (lN (q_T 5 p (L + 1) - q_T 5 p L)) := by
  have hup := q_c_up p1
  have hc : q_bl (p - 1) ≤ 20 := q_bl_le.mpr (by omega)
  have hs2 : ((1 : Int64) <<< ((nI (q_bl (p - 1))).toInt64 &&& 63)) - (nI p).toInt64 = lN (2 ^ q_bl (p - 1) - p) := by rw [q_l1, q_lshl 1 (by omega), q_i2l (by omega), Nat.one_mul, q_lsub hup]
  have hs := q_s_lt p1
  unfold j_X2_countOf
  rw [if_pos (show nI 5 = (5 : Int32) by decide), q_powerFor p1 p2, Option.bind_some, hs2, q_T5, q_T5]
  have hs0 : q_bl (p - 1) = 0 → 2 ^ q_bl (p - 1) - p = 0 := fun h9 => by rw [h9]; omega
  generalize 2 ^ q_bl (p - 1) - p = s at hs hs0 ⊢
  generalize q_bl (p - 1) = c at hc hs0 ⊢
  rw [q_i1, nI_add, q_i0, q_l0, q_i2l (by omega), q_lsub (by omega), q_lsub (by omega), lN_add, lN_add, lN_add, lN_add, lN_add]
  have hlt1 : (nI L < nI c) ↔ L < c := q_lt (by omega) (by omega)
  have hlt2 : (nI L < nI (c + 1)) ↔ L < c + 1 := q_lt (by omega) (by omega)
  have hz : (nI c = nI 0) ↔ c = 0 := q_eq (by omega) (by omega)
  by_cases c1 : L < c
  · rw [if_neg (show ¬ nI c = nI 0 from fun h9 => by have := hz.mp h9; omega), if_pos (hlt1.mpr c1), if_pos (hlt2.mpr (by omega)), if_pos (show L + 1 ≤ c by omega), if_pos (show L ≤ c by omega)]
  · have c1' : ¬ nI L < nI c := fun h9 => c1 (hlt1.mp h9)
    by_cases c2 : L < c + 1
    · have e : L = c := by omega
      subst e
      rw [if_neg (show ¬ L + 1 ≤ L by omega), if_pos (Nat.le_refl L), show L + 1 - 1 - L = 0 by omega, Nat.zero_mul]
      by_cases c3 : L = 0
      · rw [if_pos (hz.mpr c3), if_neg c1', if_pos (hlt2.mpr c2), hs0 c3]
      · rw [if_neg (fun h9 => c3 (hz.mp h9)), if_neg c1', if_pos (hlt2.mpr c2)]
        congr 2
        omega
    · have c2' : ¬ nI L < nI (c + 1) := fun h9 => c2 (hlt2.mp h9)
      rw [if_neg (show ¬ L + 1 ≤ c by omega), if_neg (show ¬ L ≤ c by omega)]
      have hm : (L + 1 - 1 - c) * p = (L - 1 - c) * p + p := by rw [← Nat.succ_mul, show (L - 1 - c).succ = L + 1 - 1 - c by omega]
      by_cases c3 : c = 0
      · rw [if_pos (hz.mpr c3), if_neg c1', if_neg c2']
        congr 2
        omega
      · rw [if_neg (fun h9 => c3 (hz.mp h9)), if_neg c1', if_neg c2']
        congr 2
        omega
theorem q_lst5 {sm : Nat → Int64} {p L : Nat} (p1 : 1 ≤ p) (p2 : p ≤ 1000000) (hL : L ≤ 200) : j_X2_leastOf sm (nI 5) (nI p) (nI L) = some (lN (if q_T 5 p L < q_T 5 p (L + 1) then q_T 5 p L else 0)) := by
  have hup := q_c_up p1
  have hc : q_bl (p - 1) ≤ 20 := q_bl_le.mpr (by omega)
  have hs2 : ((1 : Int64) <<< ((nI (q_bl (p - 1))).toInt64 &&& 63)) - (nI p).toInt64 = lN (2 ^ q_bl (p - 1) - p) := by rw [q_l1, q_lshl 1 (by omega), q_i2l (by omega), Nat.one_mul, q_lsub hup]
  have hs := q_s_lt p1
  unfold j_X2_leastOf
  rw [if_pos (show nI 5 = (5 : Int32) by decide), q_powerFor p1 p2, Option.bind_some, hs2, q_T5, q_T5]
  have hs0 : q_bl (p - 1) = 0 → 2 ^ q_bl (p - 1) - p = 0 := fun h9 => by rw [h9]; omega
  generalize 2 ^ q_bl (p - 1) - p = s at hs hs0 ⊢
  generalize q_bl (p - 1) = c at hc hs0 ⊢
  have hlt2 : (nI L < nI (c + 1)) ↔ L < c + 1 := q_lt (by omega) (by omega)
  have hz : (nI c = nI 0) ↔ c = 0 := q_eq (by omega) (by omega)
  have hq : (nI L = nI c) ↔ L = c := q_eq (by omega) (by omega)
  rw [q_i1, nI_add, q_i0, q_l0]
  by_cases c2 : L < c + 1
  · rw [if_pos (hlt2.mpr c2), if_pos (hlt2.mpr c2), if_pos (show L ≤ c by omega)]
    by_cases c1 : L = c
    · subst c1
      rw [if_neg (show ¬ L + 1 ≤ L by omega), show L + 1 - 1 - L = 0 by omega, Nat.zero_mul, if_pos (rfl : nI L = nI L), if_pos (rfl : nI L = nI L)]
      by_cases c3 : L = 0
      · rw [if_pos (hz.mpr c3), hs0 c3, if_neg (by omega)]
      · rw [if_neg (fun h9 => c3 (hz.mp h9))]
        by_cases c4 : s = 0
        · rw [c4, if_pos ((q_lle (by omega) (by omega)).mpr (Nat.le_refl 0)), if_neg (by omega)]
        · rw [if_neg (fun h9 => by have := (q_lle (by omega) (by omega)).mp h9; omega), if_pos (by omega)]
          rfl
    · rw [if_pos (show L + 1 ≤ c by omega), if_neg (Nat.lt_irrefl 1), if_neg (fun h9 => c1 (hq.mp h9)), if_neg (fun h9 => c1 (hq.mp h9))]
      split <;> rfl
  · have c2' : ¬ nI L < nI (c + 1) := fun h9 => c2 (hlt2.mp h9)
    have hm : (L + 1 - 1 - c) * p = (L - 1 - c) * p + p := by rw [← Nat.succ_mul, show (L - 1 - c).succ = L + 1 - 1 - c by omega]
    have hcond : (L - 1 - c) * p + s + 1 < (L + 1 - 1 - c) * p + s + 1 := by omega
    rw [if_neg c2', if_neg c2', if_neg (show ¬ L + 1 ≤ c by omega), if_neg (show ¬ L ≤ c by omega), if_pos hcond, q_i2l (show L < 2147483648 by omega), q_i2l (show c < 2147483648 by omega), q_i2l (show p < 2147483648 by omega), q_l1, q_lsub (by omega), q_lsub (by omega), lN_mul]
    by_cases c3 : c = 0
    · rw [if_pos (hz.mpr c3), hs0 c3, lN_add, lN_add]
    · rw [if_neg (fun h9 => c3 (hz.mp h9)), lN_add, lN_add]
theorem q_cntM {sm : Nat → Int64} (hsm : ∀ i, 1 ≤ i → i < 92 → sm i = lN (q_F (i - 1))) {k p L : Nat} (ho : q_ok k p) (hL : L ≤ 200) : j_X2_countOf sm (nI k) (nI p) (nI L) = some (lN (q_T k p (L + 1) - q_T k p L)) := by
  by_cases c5 : k = 5
  · subst c5
    exact q_cnt5 (ho.2.2.1 rfl).1 (ho.2.2.1 rfl).2 hL
  · have hmono := q_T_mono (L := L) ho (by omega)
    have hb := q_T_bd (L := L) ho (by omega)
    have hb' := q_T_bd (L := L + 1) ho (by omega)
    obtain ⟨e1, e2⟩ := q_ed_all hsm ho c5 hL
    have hk := ho.1
    unfold j_X2_countOf
    rw [q_i5, if_neg (fun h9 => c5 ((q_eq (by omega) (by omega)).mp h9)), q_i0, q_i1]
    by_cases c : q_T k p L < q_T k p (L + 1)
    · obtain ⟨a1, a2⟩ := e1 c
      rw [a1, a2, Option.bind_some, Option.bind_some, q_l0, q_l1, if_neg (fun h9 => by have := (q_leq (by omega) (by omega)).mp h9; omega), q_lsub (by omega), lN_add]
      congr 2
      omega
    · rw [e2 (by omega), Option.bind_some, q_l0, if_pos rfl]
      congr 2
      omega
theorem q_lstM {sm : Nat → Int64} (hsm : ∀ i, 1 ≤ i → i < 92 → sm i = lN (q_F (i - 1))) {k p L : Nat} (ho : q_ok k p) (hL : L ≤ 200) : j_X2_leastOf sm (nI k) (nI p) (nI L) = some (lN (if q_T k p L < q_T k p (L + 1) then q_T k p L else 0)) := by
  by_cases c5 : k = 5
  · subst c5
    exact q_lst5 (ho.2.2.1 rfl).1 (ho.2.2.1 rfl).2 hL
  · obtain ⟨e1, e2⟩ := q_ed_all hsm ho c5 hL
    have hk := ho.1
    unfold j_X2_leastOf
    rw [q_i5, if_neg (fun h9 => c5 ((q_eq (by omega) (by omega)).mp h9)), q_i0]
    by_cases c : q_T k p L < q_T k p (L + 1)
    · rw [(e1 c).1, Option.bind_some, if_pos c]
    · rw [e2 (by omega), Option.bind_some, if_neg c]
theorem q_lrT {fb : Nat → Int64} (hfb : ∀ i, i < 89 → fb i = lN (q_F i)) {k p L : Nat} (ho : q_ok k p) (hL : L ≤ 300) : j_X1_leastReaching fb (nI k) (nI p) (nI L) = some (lN (q_T k p L)) :=
  q_lr hfb ho (by omega) (fun n hn => q_T_iff ho hL hn) (q_T_bd ho hL).1 (q_T_bd ho hL).2
theorem q_T1 {k p : Nat} (ho : q_ok k p) : q_T k p 1 = 1 := by
  have hb := q_T_bd (L := 1) ho (by omega)
  rcases Nat.lt_or_ge 1 (q_T k p 1) with h | h
  · exfalso
    have hn : q_num 1 := ⟨by omega, by omega⟩
    have h1 := (q_T_iff (L := 1) ho (by omega) hn).mpr h
    obtain ⟨k7, o1, o2, o3, o4⟩ := ho
    rcases (show k = 0 ∨ (1 ≤ k ∧ k ≤ 3) ∨ k = 4 ∨ k = 5 ∨ k = 6 ∨ k = 7 by omega) with rfl | ⟨h1', h3⟩ | rfl | rfl | rfl | rfl
    · have h1 : 1 < 1 := h1
      omega
    · rw [q_lenG h1' h3 hn] at h1
      have : ∀ k, k < 4 → 1 ≤ k → 1 ≤ q_G k (q_bl 1) := by decide +kernel
      have := this k (by omega) h1'
      omega
    · have h1 : q_fi 1 + 2 < 1 := h1
      omega
    · have h1 : (1 - 1) / p + 1 + _ < 1 := h1
      rw [show (1 - 1) / p = 0 from Nat.zero_div p] at h1
      omega
    · have h1 : 2 * q_bl ((1 - 1) / 2 ^ p + 1) - 1 + p < 1 := h1
      have := q_bl_pos (n := (1 - 1) / 2 ^ p + 1) (Nat.succ_pos _)
      omega
    · have h1 : q_gr p 1 * (p + 1) < 1 := h1
      have hg := (q_gr_le (o4 rfl).1 hn).2
      have : 1 * 1 ≤ q_gr p 1 * (p + 1) := Nat.mul_le_mul hg (by omega)
      omega
  · omega
/-- rows of m bits that begin with a codeword -/
def q_R (k p : Nat) : Nat → Nat
  | 0 => 0
  | m + 1 => 2 * q_R k p m + (q_T k p (m + 2) - q_T k p (m + 1))
theorem q_begC {fb : Nat → Int64} (hfb : ∀ i, i < 89 → fb i = lN (q_F i)) {k p N : Nat} (ho : q_ok k p) (hN : N ≤ 62) : ∀ (m z b : Nat), b + m = N → m < z → jL_X1_begun_20 fb (nI k) (nI p) (nI N) z (lN (q_R k p b)) (lN (q_T k p (b + 1))) (nI (b + 1)) = some (lN (q_R k p N)) := by
  intro m
  induction m with
  | zero =>
    intro z b hb hz
    cases z with
    | zero => omega
    | succ z =>
      show (if nI N < nI (b + 1) then some (lN (q_R k p b)) else _) = _
      rw [if_pos ((q_lt (by omega) (by omega)).mpr (by omega)), show b = N by omega]
  | succ m ih =>
    intro z b hb hz
    cases z with
    | zero => omega
    | succ z =>
      have hmono := q_T_mono (L := b + 1) ho (by omega)
      show (if nI N < nI (b + 1) then some (lN (q_R k p b)) else ((j_X1_leastReaching fb (nI k) (nI p) (nI (b + 1) + nI 1)).bind fun v2002 => (jL_X1_begun_20 fb (nI k) (nI p) (nI N) z ((lN 2 * lN (q_R k p b)) + (v2002 - lN (q_T k p (b + 1)))) v2002 (nI (b + 1) + nI 1)))) = _
      rw [if_neg (fun h9 => by have := (q_lt (by omega) (by omega)).mp h9; omega), nI_add, q_lrT hfb ho (by omega), Option.bind_some, q_lsub hmono, lN_mul, lN_add]
      exact ih z (b + 1) (by omega) (by omega)
theorem q_begM {sm : Nat → Int64} (hsm : ∀ i, 1 ≤ i → i < 92 → sm i = lN (q_F (i - 1))) {k p N : Nat} (ho : q_ok k p) (hN : N ≤ 62) : ∀ (m z b : Nat), b + m = N → m < z → jL_X2_begun_33 (nI 0) sm (nI k) (nI p) (nI N) z (lN (q_R k p b * 2 ^ m)) (nI (b + 1)) = some (lN (q_R k p N), nI 0) := by
  intro m
  induction m with
  | zero =>
    intro z b hb hz
    cases z with
    | zero => omega
    | succ z =>
      show (if nI N < nI (b + 1) then some (lN (q_R k p b * 2 ^ 0), nI 0) else _) = _
      rw [if_pos ((q_lt (by omega) (by omega)).mpr (by omega)), show b = N by omega, Nat.pow_zero, Nat.mul_one]
  | succ m ih =>
    intro z b hb hz
    cases z with
    | zero => omega
    | succ z =>
      show (if nI N < nI (b + 1) then some (lN (q_R k p b * 2 ^ (m + 1)), nI 0) else (if nI 0 = (0 : Int32) then ((j_X2_countOf sm (nI k) (nI p) (nI (b + 1))).bind fun v3303 => (jL_X2_begun_33 (nI 0) sm (nI k) (nI p) (nI N) z (lN (q_R k p b * 2 ^ (m + 1)) + (v3303 <<< ((nI N - nI (b + 1)).toInt64 &&& 63))) (nI (b + 1) + nI 1))) else _)) = _
      rw [if_neg (fun h9 => by have := (q_lt (by omega) (by omega)).mp h9; omega), if_pos (show nI 0 = (0 : Int32) from rfl), q_cntM hsm ho (by omega), Option.bind_some, q_sub (by omega), q_lshl _ (by omega), lN_add, nI_add, show N - (b + 1) = m by omega]
      have e : q_R k p b * 2 ^ (m + 1) + (q_T k p (b + 1 + 1) - q_T k p (b + 1)) * 2 ^ m = q_R k p (b + 1) * 2 ^ m := by
        show _ = (2 * q_R k p b + (q_T k p (b + 2) - q_T k p (b + 1))) * 2 ^ m
        rw [Nat.add_mul, Nat.pow_succ, Nat.mul_comm 2 (q_R k p b), Nat.mul_assoc, Nat.mul_comm 2 (2 ^ m)]
      rw [e]
      exact ih z (b + 1) (by omega) (by omega)
