/-! Reading: kind 7; all kinds. -/
theorem q_gcE {w : Nat → Int64} {f : Nat → Nat} {n p : Nat} (h : q_row w f n) (hp : p ≤ 16) {z g c : Nat} {x2 : Int64} (hg : g < 62) (hc : c < 900000) : jL_X1_readGroups_5 w (nI n) (nI p) (z + 1) x2 (nI g) (nI c) = (if 62 ≤ g * p then (some ((-1 : Int64), nI (c + 1 + p))) else (if q_val f (c + 1) p < 2 ^ (62 - g * p) then (if f c = 0 then (if q_val f (c + 1) p = 0 then (if g = 0 then (some ((x2 ||| lN (q_val f (c + 1) p * 2 ^ (g * p))) + (1 : Int64), nI (c + 1 + p))) else (some ((-1 : Int64), nI (c + 1 + p)))) else (some ((x2 ||| lN (q_val f (c + 1) p * 2 ^ (g * p))) + (1 : Int64), nI (c + 1 + p)))) else (jL_X1_readGroups_5 w (nI n) (nI p) z (x2 ||| lN (q_val f (c + 1) p * 2 ^ (g * p))) (nI (g + 1)) (nI (c + 1 + p)))) else (some ((-1 : Int64), nI (c + 1 + p))))) := by
  have hf := h.2.2.2
  have hfc := hf c
  have hgp : g * p ≤ 62 * 16 := Nat.mul_le_mul (by omega) hp
  have hv := q_val_lt hf (c + 1) p
  have hpw : 2 ^ p ≤ 2 ^ 16 := Nat.pow_le_pow_right (by decide) hp
  show (if nI 62 ≤ nI g then _ else ((j_X0_readBit w (nI n) (nI c)).bind fun (v502, v503) => ((j_X0_readBits w (nI n) v503 (0 : Int64) (nI p)).bind fun (v504, v505) => (if (62 : Int32) ≤ (nI g * nI p) then (some ((-1 : Int64), v505)) else (if (v504 >>> (((62 : Int32) - (nI g * nI p)).toInt64 &&& 63)) = (0 : Int64) then (if v502 = (0 : Int32) then (if v504 = (0 : Int64) then (if nI g ≤ (0 : Int32) then (some ((x2 ||| (v504 <<< ((nI g * nI p).toInt64 &&& 63))) + (1 : Int64), v505)) else (some ((-1 : Int64), v505))) else (some ((x2 ||| (v504 <<< ((nI g * nI p).toInt64 &&& 63))) + (1 : Int64), v505))) else (jL_X1_readGroups_5 w (nI n) (nI p) z (x2 ||| (v504 <<< ((nI g * nI p).toInt64 &&& 63))) (nI g + (1 : Int32)) v505)) else (some ((-1 : Int64), v505))))))) = _
  rw [if_neg (fun h9 => by have := (q_le (by omega) (by omega)).mp h9; omega), q_readBit h (by omega), Option.bind_some]
  show ((j_X0_readBits w (nI n) (nI (c + 1)) (lN 0) (nI p)).bind fun (v504, v505) => (if (62 : Int32) ≤ (nI g * nI p) then (some ((-1 : Int64), v505)) else (if (v504 >>> (((62 : Int32) - (nI g * nI p)).toInt64 &&& 63)) = (0 : Int64) then (if nI (f c) = (0 : Int32) then (if v504 = (0 : Int64) then (if nI g ≤ (0 : Int32) then (some ((x2 ||| (v504 <<< ((nI g * nI p).toInt64 &&& 63))) + (1 : Int64), v505)) else (some ((-1 : Int64), v505))) else (some ((x2 ||| (v504 <<< ((nI g * nI p).toInt64 &&& 63))) + (1 : Int64), v505))) else (jL_X1_readGroups_5 w (nI n) (nI p) z (x2 ||| (v504 <<< ((nI g * nI p).toInt64 &&& 63))) (nI g + (1 : Int32)) v505)) else (some ((-1 : Int64), v505))))) = _
  rw [q_readBits h (by omega) (by omega), Option.bind_some, Nat.zero_mul, Nat.zero_add]
  generalize q_val f (c + 1) p = G at hv
  show (if nI 62 ≤ (nI g * nI p) then (some ((-1 : Int64), nI (c + 1 + p))) else (if (lN G >>> ((nI 62 - (nI g * nI p)).toInt64 &&& 63)) = lN 0 then (if nI (f c) = nI 0 then (if lN G = lN 0 then (if nI g ≤ nI 0 then (some ((x2 ||| (lN G <<< ((nI g * nI p).toInt64 &&& 63))) + (1 : Int64), nI (c + 1 + p))) else (some ((-1 : Int64), nI (c + 1 + p)))) else (some ((x2 ||| (lN G <<< ((nI g * nI p).toInt64 &&& 63))) + (1 : Int64), nI (c + 1 + p)))) else (jL_X1_readGroups_5 w (nI n) (nI p) z (x2 ||| (lN G <<< ((nI g * nI p).toInt64 &&& 63))) (nI g + nI 1) (nI (c + 1 + p)))) else (some ((-1 : Int64), nI (c + 1 + p))))) = _
  rw [pk_mul, nI_add]
  by_cases c1 : 62 ≤ g * p
  · rw [if_pos ((q_le (by omega) (by omega)).mpr c1), if_pos c1]
  · rw [if_neg (fun h9 => c1 ((q_le (by omega) (by omega)).mp h9)), if_neg c1, q_sub (by omega), q_lsr (by omega) (by omega), q_lshl _ (by omega)]
    have h0 := Nat.two_pow_pos (62 - g * p)
    have hd : G / 2 ^ (62 - g * p) ≤ G := Nat.div_le_self _ _
    by_cases c2 : G < 2 ^ (62 - g * p)
    · rw [if_pos (by rw [Nat.div_eq_of_lt c2]), if_pos c2]
      by_cases c3 : f c = 0
      · rw [if_pos (by rw [c3]), if_pos c3]
        by_cases c4 : G = 0
        · rw [if_pos (by rw [c4]), if_pos c4]
          by_cases c5 : g = 0
          · rw [if_pos (by rw [c5]; decide), if_pos c5]
          · rw [if_neg (fun h9 => by have := (q_le (by omega) (by omega)).mp h9; omega), if_neg c5]
        · rw [if_neg (fun h9 => c4 ((q_leq (by omega) (by omega)).mp h9)), if_neg c4]
      · rw [if_neg (fun h9 => c3 ((q_eq (by omega) (by omega)).mp h9)), if_neg c3]
    · have hg2 : 0 < G / 2 ^ (62 - g * p) := Nat.div_pos (by omega) h0
      rw [if_neg (fun h9 => by have := (q_leq (by omega) (by omega)).mp h9; omega), if_neg c2]
theorem q_gc62 {w : Nat → Int64} {n p z : Nat} {x2 : Int64} {cu : Int32} : jL_X1_readGroups_5 w (nI n) (nI p) (z + 1) x2 (nI 62) cu = some ((-1 : Int64), cu) := by
  show (if nI 62 ≤ nI 62 then (some ((-1 : Int64), cu)) else _) = _
  rw [if_pos (by decide)]
theorem q_grAny {w : Nat → Int64} {f : Nat → Nat} {n p : Nat} (h : q_row w f n) (hp : p ≤ 16) : ∀ (m z g c : Nat) (x2 : Int64), g + m = 62 → m < z → c + 17 * m < 800000 → ∃ r c', jL_X1_readGroups_5 w (nI n) (nI p) z x2 (nI g) (nI c) = some (r, nI c') ∧ (r = -1 ∨ c + 1 + p ≤ c') ∧ c' < 900000 := by
  intro m
  induction m with
  | zero =>
    intro z g c x2 hg hz hc
    obtain ⟨z, rfl⟩ : ∃ y, z = y + 1 := ⟨z - 1, by omega⟩
    rw [show g = 62 by omega, q_gc62]
    exact ⟨_, c, rfl, Or.inl rfl, by omega⟩
  | succ m ih =>
    intro z g c x2 hg hz hc
    obtain ⟨z, rfl⟩ : ∃ y, z = y + 1 := ⟨z - 1, by omega⟩
    rw [q_gcE h hp (by omega) (by omega)]
    obtain ⟨r, c', e, h1, h2⟩ := ih z (g + 1) (c + 1 + p) (x2 ||| lN (q_val f (c + 1) p * 2 ^ (g * p))) (by omega) (by omega) (by omega)
    split
    · exact ⟨_, c + 1 + p, rfl, Or.inl rfl, by omega⟩
    · split
      · split
        · split
          · split
            · exact ⟨_, c + 1 + p, rfl, Or.inr (by omega), by omega⟩
            · exact ⟨_, c + 1 + p, rfl, Or.inl rfl, by omega⟩
          · exact ⟨_, c + 1 + p, rfl, Or.inr (by omega), by omega⟩
        · exact ⟨r, c', e, by
            rcases h1 with h1 | h1
            · exact Or.inl h1
            · exact Or.inr (by omega), h2⟩
      · exact ⟨_, c + 1 + p, rfl, Or.inl rfl, by omega⟩
/-! the reference -/
theorem q_grN {rw : Nat → Int32} {mn x1 : Int32} {z : Nat} {x2 : Int64} {x4 x5 fr : Int32} : jL_X2_readGroups_8 rw mn x1 (z + 1) x2 x4 x5 fr (nI 1) = some (x2 + (1 : Int64), fr, nI 1) := by
  show (if x5 = (0 : Int32) then some (x2 + (1 : Int64), fr, nI 1) else (if nI 1 = (0 : Int32) then _ else some (x2 + (1 : Int64), fr, nI 1))) = _
  rw [if_neg (show ¬ nI 1 = (0 : Int32) by decide)]
  split <;> rfl
theorem q_gr0 {rw : Nat → Int32} {mn x1 : Int32} {z : Nat} {x2 : Int64} {x4 fr no : Int32} : jL_X2_readGroups_8 rw mn x1 (z + 1) x2 x4 (nI 0) fr no = some (x2 + (1 : Int64), fr, no) := by
  show (if nI 0 = (0 : Int32) then some (x2 + (1 : Int64), fr, no) else _) = _
  rw [if_pos (show nI 0 = (0 : Int32) from rfl)]
theorem q_131n {rw : Nat → Int32} {mn x1 : Int32} {z : Nat} {y0 : Int64} {x4 x5 fr : Int32} : ∃ x, jS_X2_readGroups_131 rw mn x1 (jL_X2_readGroups_8 rw mn x1 (z + 1)) x4 x5 y0 fr (nI 1) = some (x, fr, nI 1) := by
  unfold jS_X2_readGroups_131 jS_X2_readGroups_148
  split <;> exact ⟨_, q_grN⟩
theorem q_106n {rw : Nat → Int32} {mn x1 : Int32} {z : Nat} {x2 x6 : Int64} {x4 x5 fr : Int32} : ∃ x, jS_X2_readGroups_106 rw mn x1 (jL_X2_readGroups_8 rw mn x1 (z + 1)) x2 x4 x5 x6 fr (nI 1) = some (x, fr, nI 1) := by
  unfold jS_X2_readGroups_106
  split
  · exact q_131n
  · split <;> exact q_131n
theorem q_75n {rw : Nat → Int32} {mn x1 : Int32} {z : Nat} {x2 x6 : Int64} {x4 x5 fr : Int32} : ∃ x, jS_X2_readGroups_75 rw mn x1 (jL_X2_readGroups_8 rw mn x1 (z + 1)) x2 x4 x5 x6 fr (nI 1) = some (x, fr, nI 1) := by
  unfold jS_X2_readGroups_75
  split
  · exact q_106n
  · split
    · exact q_106n
    · split <;> exact q_106n
theorem q_51n {rw : Nat → Int32} {mn x1 : Int32} {z : Nat} {x2 y0 : Int64} {x4 x5 fr : Int32} : ∃ x, jS_X2_readGroups_51 rw mn x1 (jL_X2_readGroups_8 rw mn x1 (z + 1)) x2 x4 x5 y0 fr (nI 1) = some (x, fr, nI 1) := by
  unfold jS_X2_readGroups_51
  split
  · split
    · split <;> exact q_75n
    · exact q_75n
  · exact q_75n
theorem q_gsN {rw : Nat → Int32} {f : Nat → Nat} {n p c z : Nat} {x2 : Int64} {x4 : Int32} (hm : q_rm rw f n) (hf : ∀ i, f i ≤ 1) (hn : n ≤ 4096) (hp : p ≤ 16) (hc : c ≤ n) (h : n < c + 1 + p) : ∃ x y, jL_X2_readGroups_8 rw (nI n) (nI p) (z + 2) x2 x4 (nI 1) (nI c) (nI 0) = some (x, y, nI 1) := by
  show ∃ x y, (if nI 1 = (0 : Int32) then _ else (if nI 0 = (0 : Int32) then ((j_X2_next rw (nI n) (nI c) (nI 0)).bind fun (v803, v804, v805) => (if v803 = (1 : Int32) then (jS_X2_readGroups_33 rw (nI n) (nI p) (jL_X2_readGroups_8 rw (nI n) (nI p) (z + 1)) x2 x4 (1 : Int32) v804 v805) else (jS_X2_readGroups_33 rw (nI n) (nI p) (jL_X2_readGroups_8 rw (nI n) (nI p) (z + 1)) x2 x4 (0 : Int32) v804 v805))) else _)) = _
  rw [if_neg (show ¬ nI 1 = (0 : Int32) by decide), if_pos (show nI 0 = (0 : Int32) from rfl)]
  by_cases c1 : c < n
  · rw [q_next hm hn c1, Option.bind_some]
    obtain ⟨x, y, e⟩ := (q_someM (b := p) (c := c + 1) hm hf hn (by omega) (by omega)).2 (by omega)
    have key : ∀ B : Int32, ∃ x y, jS_X2_readGroups_33 rw (nI n) (nI p) (jL_X2_readGroups_8 rw (nI n) (nI p) (z + 1)) x2 x4 B (nI (c + 1)) (nI 0) = some (x, y, nI 1) := by
      intro B
      unfold jS_X2_readGroups_33
      rw [if_pos (show nI 0 = (0 : Int32) from rfl), e, Option.bind_some]
      obtain ⟨x3, e3⟩ := q_51n (rw := rw) (mn := nI n) (x1 := nI p) (z := z) (x2 := x2) (y0 := x) (x4 := x4) (x5 := B) (fr := y)
      exact ⟨x3, y, e3⟩
    show ∃ x y, (if nI (f c) = (1 : Int32) then (jS_X2_readGroups_33 rw (nI n) (nI p) (jL_X2_readGroups_8 rw (nI n) (nI p) (z + 1)) x2 x4 (1 : Int32) (nI (c + 1)) (nI 0)) else (jS_X2_readGroups_33 rw (nI n) (nI p) (jL_X2_readGroups_8 rw (nI n) (nI p) (z + 1)) x2 x4 (0 : Int32) (nI (c + 1)) (nI 0))) = some (x, y, nI 1)
    split <;> exact key _
  · rw [q_nextNo hn (by omega) (by omega), Option.bind_some]
    obtain ⟨x3, e3⟩ := q_51n (rw := rw) (mn := nI n) (x1 := nI p) (z := z) (x2 := x2) (y0 := 0) (x4 := x4) (x5 := 0) (fr := nI c)
    show ∃ x y, (if nI 0 = (1 : Int32) then _ else (jS_X2_readGroups_33 rw (nI n) (nI p) (jL_X2_readGroups_8 rw (nI n) (nI p) (z + 1)) x2 x4 (0 : Int32) (nI c) (nI 1))) = some (x, y, nI 1)
    rw [if_neg (show ¬ nI 0 = (1 : Int32) by decide)]
    unfold jS_X2_readGroups_33
    rw [if_neg (show ¬ nI 1 = (0 : Int32) by decide)]
    exact ⟨x3, nI c, e3⟩
theorem q_gs {rw : Nat → Int32} {f : Nat → Nat} {n p c z : Nat} {x2 : Int64} {x4 : Int32} (hm : q_rm rw f n) (hf : ∀ i, f i ≤ 1) (hn : n ≤ 4096) (hp : p ≤ 16) (h : c + 1 + p ≤ n) : jL_X2_readGroups_8 rw (nI n) (nI p) (z + 1) x2 x4 (nI 1) (nI c) (nI 0) = jS_X2_readGroups_51 rw (nI n) (nI p) (jL_X2_readGroups_8 rw (nI n) (nI p) z) x2 x4 (nI (f c)) (lN (q_val f (c + 1) p)) (nI (c + 1 + p)) (nI 0) := by
  have hfc := hf c
  show (if nI 1 = (0 : Int32) then _ else (if nI 0 = (0 : Int32) then ((j_X2_next rw (nI n) (nI c) (nI 0)).bind fun (v803, v804, v805) => (if v803 = (1 : Int32) then (jS_X2_readGroups_33 rw (nI n) (nI p) (jL_X2_readGroups_8 rw (nI n) (nI p) z) x2 x4 (1 : Int32) v804 v805) else (jS_X2_readGroups_33 rw (nI n) (nI p) (jL_X2_readGroups_8 rw (nI n) (nI p) z) x2 x4 (0 : Int32) v804 v805))) else _)) = _
  rw [if_neg (show ¬ nI 1 = (0 : Int32) by decide), if_pos (show nI 0 = (0 : Int32) from rfl), q_next hm hn (by omega), Option.bind_some]
  have e := (q_someM (b := p) (c := c + 1) hm hf hn (by omega) (by omega)).1 h
  have key : ∀ B : Int32, jS_X2_readGroups_33 rw (nI n) (nI p) (jL_X2_readGroups_8 rw (nI n) (nI p) z) x2 x4 B (nI (c + 1)) (nI 0) = jS_X2_readGroups_51 rw (nI n) (nI p) (jL_X2_readGroups_8 rw (nI n) (nI p) z) x2 x4 B (lN (q_val f (c + 1) p)) (nI (c + 1 + p)) (nI 0) := by
    intro B
    unfold jS_X2_readGroups_33
    rw [if_pos (show nI 0 = (0 : Int32) from rfl), e, Option.bind_some]
  show (if nI (f c) = (1 : Int32) then (jS_X2_readGroups_33 rw (nI n) (nI p) (jL_X2_readGroups_8 rw (nI n) (nI p) z) x2 x4 (1 : Int32) (nI (c + 1)) (nI 0)) else (jS_X2_readGroups_33 rw (nI n) (nI p) (jL_X2_readGroups_8 rw (nI n) (nI p) z) x2 x4 (0 : Int32) (nI (c + 1)) (nI 0))) = _
  rw [key, key]
  rcases (show f c = 0 ∨ f c = 1 by omega) with b | b
  · rw [b, if_neg (show ¬ nI 0 = (1 : Int32) by decide)]
    rfl
  · rw [b, if_pos (show nI 1 = (1 : Int32) from rfl)]
    rfl
theorem q_51z {rw : Nat → Int32} {n p z H : Nat} {x2 : Int64} {fr : Int32} (hH : 0 < H) (hH2 : H < 1000) : ∃ x, jS_X2_readGroups_51 rw (nI n) (nI p) (jL_X2_readGroups_8 rw (nI n) (nI p) (z + 1)) x2 (nI H) (nI 0) (lN 0) fr (nI 0) = some (x, fr, nI 1) := by
  unfold jS_X2_readGroups_51
  rw [if_pos (show nI 0 = (0 : Int32) from rfl), if_pos (show lN 0 = (0 : Int64) from rfl), q_i0, if_neg (fun h9 => by have := (q_le (by omega) (by omega)).mp h9; omega)]
  exact q_75n
theorem q_51b {rw : Nat → Int32} {n p z H G : Nat} {x2 : Int64} {x5 fr : Int32} (hG : 0 < G) (hG2 : G < 9223372036854775808) (hH2 : H < 1000) (h : 62 < H ∨ 4611686018427387903 / 2 ^ H < G) : ∃ x, jS_X2_readGroups_51 rw (nI n) (nI p) (jL_X2_readGroups_8 rw (nI n) (nI p) (z + 1)) x2 (nI H) x5 (lN G) fr (nI 0) = some (x, fr, nI 1) := by
  have hd : 4611686018427387903 / 2 ^ H ≤ 4611686018427387903 := Nat.div_le_self _ _
  have key : ∃ x, jS_X2_readGroups_75 rw (nI n) (nI p) (jL_X2_readGroups_8 rw (nI n) (nI p) (z + 1)) x2 (nI H) x5 (lN G) fr (nI 0) = some (x, fr, nI 1) := by
    unfold jS_X2_readGroups_75
    rw [q_l0, if_neg (fun h9 => by have := (q_lle (by omega) (by omega)).mp h9; omega), q_i62, q_lMm]
    by_cases c : 62 < H
    · rw [if_pos ((q_lt (by omega) (by omega)).mpr c)]
      exact q_106n
    · rw [if_neg (fun h9 => c ((q_lt (by omega) (by omega)).mp h9)), q_lsr (by omega) (by omega), if_neg (fun h9 => by have := (q_lle (by omega) (by omega)).mp h9; omega)]
      exact q_106n
  unfold jS_X2_readGroups_51
  split
  · rw [q_l0, if_neg (fun h9 => by have := (q_leq (by omega) (by omega)).mp h9; omega)]
    exact key
  · exact key
theorem q_51g {rw : Nat → Int32} {n p H G V : Nat} {k8 : Int64 → Int32 → Int32 → Int32 → Int32 → Option (Int64 × Int32 × Int32)} {B : Nat} {fr : Int32} (hG2 : G < 9223372036854775808) (hH2 : H ≤ 62) (hB : B ≤ 1) (h0 : ¬ (B = 0 ∧ G = 0 ∧ 0 < H)) (h : G ≤ 4611686018427387903 / 2 ^ H) : jS_X2_readGroups_51 rw (nI n) (nI p) k8 (lN V) (nI H) (nI B) (lN G) fr (nI 0) = k8 (lN (V + G * 2 ^ H)) (nI (H + p)) (nI B) fr (nI 0) := by
  have hd : 4611686018427387903 / 2 ^ H ≤ 4611686018427387903 := Nat.div_le_self _ _
  have e131 : ∀ Y : Int64, jS_X2_readGroups_131 rw (nI n) (nI p) k8 (nI H) (nI B) Y fr (nI 0) = k8 Y (nI (H + p)) (nI B) fr (nI 0) := by
    intro Y
    unfold jS_X2_readGroups_131 jS_X2_readGroups_148
    rw [q_i100, if_pos ((q_le (by omega) (by omega)).mpr (by omega)), nI_add]
  have key : jS_X2_readGroups_75 rw (nI n) (nI p) k8 (lN V) (nI H) (nI B) (lN G) fr (nI 0) = k8 (lN (V + G * 2 ^ H)) (nI (H + p)) (nI B) fr (nI 0) := by
    unfold jS_X2_readGroups_75 jS_X2_readGroups_106
    rw [q_l0]
    by_cases c : G = 0
    · subst c
      rw [if_pos ((q_lle (by omega) (by omega)).mpr (Nat.le_refl 0)), if_pos ((q_lle (by omega) (by omega)).mpr (Nat.le_refl 0)), e131, Nat.zero_mul, Nat.add_zero]
    · rw [if_neg (show ¬ lN G ≤ lN 0 from fun h9 => by have := (q_lle (by omega) (by omega)).mp h9; omega), if_neg (show ¬ lN G ≤ lN 0 from fun h9 => by have := (q_lle (by omega) (by omega)).mp h9; omega), q_i62, q_lMm, if_neg (show ¬ nI 62 < nI H from fun h9 => by have := (q_lt (by omega) (by omega)).mp h9; omega), q_lsr (by omega) (by omega), if_pos ((q_lle (by omega) (by omega)).mpr h), if_pos (show nI 0 = (0 : Int32) from rfl), e131, q_lshl _ (by omega), lN_add, if_neg (show ¬ lN G ≤ lN 0 from fun h9 => by have := (q_lle (by omega) (by omega)).mp h9; omega), e131]
  unfold jS_X2_readGroups_51
  rw [key]
  by_cases b : B = 0
  · subst b
    rw [if_pos (show nI 0 = (0 : Int32) from rfl)]
    by_cases g : G = 0
    · have hH : H = 0 := by omega
      rw [if_pos (by rw [g]; rfl), if_pos (by rw [hH]; decide)]
    · rw [q_l0, if_neg (fun h9 => g ((q_leq (by omega) (by omega)).mp h9))]
  · rw [q_i0, if_neg (fun h9 => b ((q_eq (by omega) (by omega)).mp h9))]
