/-! Reading: kinds 6 and 5. -/
def q_C6 (w : Nat → Int64) (en a1 : Int32) (v1 : Int64) (v2 : Int32) : Option (Int64 × Int32) :=
  if v1 = (-1 : Int64) then (some ((-1 : Int64), v2)) else (if ((v1 - (1 : Int64)) >>> (((62 : Int32) - a1).toInt64 &&& 63)) = (0 : Int64) then ((j_X0_readBits w en v2 (0 : Int64) a1).bind fun (v5, v6) => (some ((((v1 - (1 : Int64)) <<< (a1.toInt64 &&& 63)) + v5) + (1 : Int64), v6))) else (some ((-1 : Int64), v2)))
def q_S6 (rw : Nat → Int32) (mn a1 : Int32) (v1 : Int64) (v2 v3 : Int32) : Option (Int64 × Int32 × Int32) :=
  (if v3 = (0 : Int32) then ((j_X2_some rw mn v2 v3 a1).bind fun (v5, v6, v7) => (if v7 = (0 : Int32) then (if (v1 - (1 : Int64)) ≤ ((4611686018427387903 : Int64) >>> (a1.toInt64 &&& 63)) then (some ((((v1 - (1 : Int64)) <<< (a1.toInt64 &&& 63)) + v5) + (1 : Int64), v6, v7)) else (some ((0 : Int64), v6, (1 : Int32)))) else (some ((0 : Int64), v6, (1 : Int32))))) else (if v3 = (0 : Int32) then (if (v1 - (1 : Int64)) ≤ ((4611686018427387903 : Int64) >>> (a1.toInt64 &&& 63)) then (some ((((v1 - (1 : Int64)) <<< (a1.toInt64 &&& 63)) + (0 : Int64)) + (1 : Int64), v2, v3)) else (some ((0 : Int64), v2, (1 : Int32)))) else (some ((0 : Int64), v2, (1 : Int32)))))
theorem q_sh6 {x p : Nat} (hp : p ≤ 62) : x ≤ 4611686018427387903 / 2 ^ p ↔ x < 2 ^ (62 - p) := by
  have h : 2 ^ (62 - p) * 2 ^ p = 4611686018427387904 := by rw [← Nat.pow_add, show 62 - p + p = 62 by omega]
  have h0 := Nat.two_pow_pos p
  rw [Nat.le_div_iff_mul_le h0]
  constructor
  · intro h1
    exact Nat.lt_of_mul_lt_mul_right (a := 2 ^ p) (by omega)
  · intro h1
    have h2 := Nat.mul_le_mul_right (2 ^ p) (Nat.succ_le_of_lt h1)
    rw [h, Nat.succ_mul] at h2
    omega
theorem q_v6 {v p x : Nat} (hp : p ≤ 40) (h : v - 1 < 2 ^ (62 - p)) (hx : x < 2 ^ p) : (v - 1) * 2 ^ p + x + 1 ≤ 4611686018427387904 := by
  have h1 : 2 ^ (62 - p) * 2 ^ p = 4611686018427387904 := by rw [← Nat.pow_add, show 62 - p + p = 62 by omega]
  have h2 := Nat.mul_le_mul_right (2 ^ p) (Nat.succ_le_of_lt h)
  rw [h1, Nat.succ_mul] at h2
  omega
theorem q_C6v {w : Nat → Int64} {f : Nat → Nat} {n v c p : Nat} (h : q_row w f n) (v1 : 1 ≤ v) (v2 : v < 9223372036854775808) (hc : c < 1000000) (hp : p ≤ 40) : q_C6 w (nI n) (nI p) (lN v) (nI c) = if v - 1 < 2 ^ (62 - p) then some (lN ((v - 1) * 2 ^ p + q_val f c p + 1), nI (c + p)) else some ((-1 : Int64), nI c) := by
  have h0 := Nat.two_pow_pos (62 - p)
  have hd : (v - 1) / 2 ^ (62 - p) ≤ v - 1 := Nat.div_le_self _ _
  unfold q_C6
  rw [if_neg (q_neg1 v2), q_l1, q_l0, q_lsub v1, q_i62, q_sub (by omega), q_lsr (by omega) (by omega)]
  by_cases d : v - 1 < 2 ^ (62 - p)
  · rw [if_pos (by rw [Nat.div_eq_of_lt d]), if_pos d, q_readBits h hc (by omega), Option.bind_some]
    show some (((lN (v - 1) <<< ((nI p).toInt64 &&& 63)) + lN (0 * 2 ^ p + q_val f c p)) + lN 1, nI (c + p)) = _
    rw [q_lshl _ (by omega), Nat.zero_mul, Nat.zero_add, lN_add, lN_add]
  · have hg : 0 < (v - 1) / 2 ^ (62 - p) := Nat.div_pos (by omega) h0
    rw [if_neg (fun h9 => by have := (q_leq (by omega) (by omega)).mp h9; omega), if_neg d]
theorem q_S6v {rw : Nat → Int32} {f : Nat → Nat} {n v e p : Nat} (hm : q_rm rw f n) (hf : ∀ i, f i ≤ 1) (hn : n ≤ 4096) (v1 : 1 ≤ v) (v2 : v < 9223372036854775808) (he : e ≤ n) (hp : p ≤ 40) : (v - 1 < 2 ^ (62 - p) → e + p ≤ n → q_S6 rw (nI n) (nI p) (lN v) (nI e) (nI 0) = some (lN ((v - 1) * 2 ^ p + q_val f e p + 1), nI (e + p), nI 0)) ∧ ((2 ^ (62 - p) ≤ v - 1 ∨ n < e + p) → ∃ x y, q_S6 rw (nI n) (nI p) (lN v) (nI e) (nI 0) = some (x, y, nI 1)) := by
  have hs := q_someM (b := p) (c := e) hm hf hn (by omega) he
  have hd : 4611686018427387903 / 2 ^ p ≤ 4611686018427387903 := Nat.div_le_self _ _
  unfold q_S6
  rw [if_pos (show nI 0 = (0 : Int32) from rfl), q_l1, q_lMm, q_lsub v1, q_lsr (by omega) (by omega)]
  by_cases c : e + p ≤ n
  · rw [hs.1 c, Option.bind_some]
    show (v - 1 < 2 ^ (62 - p) → e + p ≤ n → (if nI 0 = (0 : Int32) then (if lN (v - 1) ≤ lN (4611686018427387903 / 2 ^ p) then (some (((lN (v - 1) <<< ((nI p).toInt64 &&& 63)) + lN (q_val f e p)) + lN 1, nI (e + p), nI 0)) else (some ((0 : Int64), nI (e + p), (1 : Int32)))) else _) = _) ∧ (_ → ∃ x y, (if nI 0 = (0 : Int32) then (if lN (v - 1) ≤ lN (4611686018427387903 / 2 ^ p) then (some (((lN (v - 1) <<< ((nI p).toInt64 &&& 63)) + lN (q_val f e p)) + lN 1, nI (e + p), nI 0)) else (some ((0 : Int64), nI (e + p), (1 : Int32)))) else _) = some (x, y, nI 1))
    rw [if_pos (show nI 0 = (0 : Int32) from rfl)]
    constructor
    · intro d _
      rw [if_pos ((q_lle (by omega) (by omega)).mpr ((q_sh6 (by omega)).mpr d)), q_lshl _ (by omega), lN_add, lN_add]
    · intro d
      refine ⟨lN 0, nI (e + p), ?_⟩
      rw [if_neg (fun h9 => by have := (q_sh6 (by omega)).mp ((q_lle (by omega) (by omega)).mp h9); omega)]
      rfl
  · obtain ⟨x, y, e9⟩ := hs.2 (by omega)
    rw [e9, Option.bind_some]
    exact ⟨fun _ h9 => absurd h9 c, fun _ => ⟨lN 0, y, rfl⟩⟩
theorem q_k6 {w : Nat → Int64} {rw : Nat → Int32} {fb sm : Nat → Int64} {f : Nat → Nat} {n a p : Nat} {fr no : Int32} (h : q_row w f n) (hm : q_rm rw f n) (ha : a ≤ n) (hp : p ≤ 40) : q_rr n a (j_X1_readCodeword w (nI n) (nI a) fb (nI 6) (nI p)) (j_X2_reads rw (nI n) (nI a) sm fr no (nI 6) (nI p)) := by
  have hf := h.2.2.2
  have hn := h.2.2.1
  have eC : j_X1_readCodeword w (nI n) (nI a) fb (nI 6) (nI p) = ((j_X1_readGamma w (nI n) (nI a)).bind fun (v1, v2) => q_C6 w (nI n) (nI p) v1 v2).bind fun (v7, v8) => some (v7, v8) := by
    unfold j_X1_readCodeword
    rw [if_neg (by decide), if_neg (by decide), if_neg (by decide), if_neg (by decide), if_neg (by decide), if_neg (by decide), if_pos (by decide)]
    rfl
  have eM : j_X2_reads rw (nI n) (nI a) sm fr no (nI 6) (nI p) = ((j_X2_readDoubled rw (nI n) (nI a) (nI 0)).bind fun (v7, v8, v9) => q_S6 rw (nI n) (nI p) v7 v8 v9).bind fun (v28, v29, v30) => jS_X2_reads_196 rw (nI n) sm v28 (nI a) v29 v30 := by
    unfold j_X2_reads
    rw [if_neg (by decide), if_neg (by decide), if_neg (by decide), if_neg (by decide), if_neg (by decide), if_neg (by decide), if_pos (by decide)]
    rfl
  rw [eC, eM]
  rcases q_gam h hm ha with ⟨v, e, v1, v2, e1, e2, hC, hM⟩ | ⟨⟨c, c1, hC⟩, hM⟩
  · rw [hC, hM, Option.bind_some, Option.bind_some]
    show q_rr n a ((q_C6 w (nI n) (nI p) (lN v) (nI e)).bind fun (v7, v8) => some (v7, v8)) ((q_S6 rw (nI n) (nI p) (lN v) (nI e) (nI 0)).bind fun (v28, v29, v30) => jS_X2_reads_196 rw (nI n) sm v28 (nI a) v29 v30)
    rw [q_C6v h v1 (by omega) (by omega) hp]
    obtain ⟨s1, s2⟩ := q_S6v hm hf hn v1 (by omega) e2 hp
    have hv := q_val_lt hf e p
    by_cases d : v - 1 < 2 ^ (62 - p)
    · rw [if_pos d, Option.bind_some]
      by_cases d2 : e + p ≤ n
      · rw [s1 d d2, Option.bind_some]
        have hq : q_num ((v - 1) * 2 ^ p + q_val f e p + 1) := ⟨by omega, q_v6 hp d hv⟩
        exact Or.inl ⟨_, _, hq, by omega, d2, rfl, q_196 hq⟩
      · obtain ⟨x, y, e9⟩ := s2 (Or.inr (by omega))
        rw [e9, Option.bind_some]
        exact Or.inr ⟨⟨_, _, rfl, Or.inr ⟨e + p, by omega, by omega, rfl⟩⟩, q_196n (rw := rw) (mn := nI n) (sm := sm) (x := x) (a := a) (fr := y)⟩
    · obtain ⟨x, y, e9⟩ := s2 (Or.inl (by omega))
      rw [if_neg d, e9, Option.bind_some, Option.bind_some]
      exact Or.inr ⟨⟨_, _, rfl, Or.inl rfl⟩, q_196n (rw := rw) (mn := nI n) (sm := sm) (x := x) (a := a) (fr := y)⟩
  · refine Or.inr ⟨?_, ?_⟩
    · rcases hC with hC | ⟨c2, v, v1, v2, hC⟩
      · rw [hC, Option.bind_some]
        show q_Cf n ((q_C6 w (nI n) (nI p) (-1 : Int64) (nI c)).bind fun (v7, v8) => some (v7, v8))
        unfold q_C6
        rw [if_pos rfl]
        exact ⟨_, _, rfl, Or.inl rfl⟩
      · rw [hC, Option.bind_some]
        show q_Cf n ((q_C6 w (nI n) (nI p) (lN v) (nI c)).bind fun (v7, v8) => some (v7, v8))
        rw [q_C6v h v1 (by omega) (by omega) hp]
        split
        · exact ⟨_, _, rfl, Or.inr ⟨c + p, by omega, by omega, rfl⟩⟩
        · exact ⟨_, _, rfl, Or.inl rfl⟩
    · rcases hM with ⟨v, fr, hM⟩ | ⟨v, e, v1, v2, e2, hM⟩
      · rw [hM, Option.bind_some]
        show q_Mf a ((q_S6 rw (nI n) (nI p) v fr (nI 1)).bind fun (v28, v29, v30) => jS_X2_reads_196 rw (nI n) sm v28 (nI a) v29 v30)
        unfold q_S6
        rw [if_neg (show ¬ nI 1 = (0 : Int32) by decide), if_neg (show ¬ nI 1 = (0 : Int32) by decide), Option.bind_some]
        exact q_196n (rw := rw) (mn := nI n) (sm := sm) (x := 0) (a := a) (fr := fr)
      · rw [hM, Option.bind_some]
        have hp9 : 2 ^ (62 - p) ≤ 2 ^ 62 := Nat.pow_le_pow_right (by decide) (by omega)
        obtain ⟨x, y, e9⟩ := (q_S6v (f := f) hm hf hn (show 1 ≤ v by omega) v2 e2 hp).2 (Or.inl (by omega))
        show q_Mf a ((q_S6 rw (nI n) (nI p) (lN v) (nI e) (nI 0)).bind fun (v28, v29, v30) => jS_X2_reads_196 rw (nI n) sm v28 (nI a) v29 v30)
        rw [e9, Option.bind_some]
        exact q_196n (rw := rw) (mn := nI n) (sm := sm) (x := x) (a := a) (fr := y)
theorem q_58a {rw : Nat → Int32} {mn : Int32} {r p c s X : Nat} {fr no : Int32} (hc : c < 64) (hp : p ≤ 1000000) (hs : s < 9223372036854775808) (hX : X < 9223372036854775808) (h : c = 0 ∨ X < s) : jS_X2_readQuotient_58 rw mn (nI p) (lN r) (nI c) (lN s) (lN X) fr no = some (lN (r * p + X + 1), fr, no) := by
  have e : jS_X2_readQuotient_97 rw mn (nI p) (lN r) (lN X) fr no = some (lN (r * p + X + 1), fr, no) := by
    unfold jS_X2_readQuotient_97
    rw [q_i2l (by omega), lN_mul, lN_add, q_l1, lN_add]
  unfold jS_X2_readQuotient_58
  rw [e]
  by_cases c0 : c = 0
  · rw [if_pos (by rw [c0]; decide)]
  · rw [q_i0, if_neg (fun h9 => by have := (q_le (by omega) (by omega)).mp h9; omega), if_pos ((q_llt hX hs).mpr (by omega))]
theorem q_58n {rw : Nat → Int32} {mn : Int32} {x1 x4 : Int32} {x2 x5 y0 : Int64} {fr : Int32} : ∃ x, jS_X2_readQuotient_58 rw mn x1 x2 x4 x5 y0 fr (nI 1) = some (x, fr, nI 1) := by
  unfold jS_X2_readQuotient_58 jS_X2_readQuotient_97
  rw [if_neg (show ¬ nI 1 = (0 : Int32) by decide)]
  split
  · exact ⟨_, rfl⟩
  · split <;> exact ⟨_, rfl⟩
theorem q_58b {rw : Nat → Int32} {n r p c s X e : Nat} {fr : Int32} (hc : c < 64) (hc0 : 0 < c) (hs : s < 9223372036854775808) (hX : X < 9223372036854775808) (h : s ≤ X) : jS_X2_readQuotient_58 rw (nI n) (nI p) (lN r) (nI c) (lN s) (lN X) fr (nI 0) = (j_X2_next rw (nI n) fr (nI 0)).bind fun (v5804, v5805, v5806) => (jS_X2_readQuotient_97 rw (nI n) (nI p) (lN r) (((lN 2 * lN X) + v5804.toInt64) - lN s) v5805 v5806) := by
  unfold jS_X2_readQuotient_58
  rw [if_pos (show nI 0 = (0 : Int32) from rfl), q_i0, if_neg (fun h9 => by have := (q_le (by omega) (by omega)).mp h9; omega), if_neg (fun h9 => by have := (q_llt hX hs).mp h9; omega)]
  rfl
theorem q_k5 {w : Nat → Int64} {rw : Nat → Int32} {fb sm : Nat → Int64} {f : Nat → Nat} {n a p : Nat} {fr no : Int32} (h : q_row w f n) (hm : q_rm rw f n) (ha : a ≤ n) (h1 : 1 ≤ p) (h2 : p ≤ 1000000) : q_rr n a (j_X1_readCodeword w (nI n) (nI a) fb (nI 5) (nI p)) (j_X2_reads rw (nI n) (nI a) sm fr no (nI 5) (nI p)) := by
  have hf := h.2.2.2
  have hn := h.2.2.1
  have e1 := q_run (b := 1) hm hf hn (by omega) ha
  have e2 := q_readOnes h ha
  have hle := q_rn_le f 1 (n - a) a
  generalize q_rn f 1 (n - a) a = r at e1 e2 hle
  have hc : q_bl (p - 1) ≤ 20 := q_bl_le.mpr (by omega)
  have hw := q_golombWidth h1 h2
  have hs := q_golombShort h1 h2
  have hpf := q_powerFor h1 h2
  have hup := q_c_up h1
  have hpw : 2 ^ q_bl (p - 1) ≤ 2 ^ 20 := Nat.pow_le_pow_right (by decide) hc
  have hs2 : ((1 : Int64) <<< ((nI (q_bl (p - 1))).toInt64 &&& 63)) - (nI p).toInt64 = lN (2 ^ q_bl (p - 1) - p) := by rw [q_l1, q_lshl 1 (by omega), q_i2l (by omega), Nat.one_mul, q_lsub hup]
  generalize q_bl (p - 1) = c at hc hw hs hpf hup hpw hs2
  have hsl : 2 ^ c - p ≤ 1048576 := by omega
  generalize 2 ^ c - p = s at hs hs2 hsl
  have hrp : r * p ≤ 4096 * 1000000 := Nat.mul_le_mul (by omega) h2
  have eC : j_X1_readCodeword w (nI n) (nI a) fb (nI 5) (nI p) = (j_X1_readGolomb w (nI n) (nI a) (nI p)).bind fun (v7, v8) => some (v7, v8) := by
    unfold j_X1_readCodeword
    rw [if_neg (by decide), if_neg (by decide), if_neg (by decide), if_neg (by decide), if_neg (by decide), if_pos (by decide)]
  have eM : j_X2_reads rw (nI n) (nI a) sm fr no (nI 5) (nI p) = (j_X2_readQuotient rw (nI n) (nI a) (nI 0) (nI p)).bind fun (v28, v29, v30) => jS_X2_reads_196 rw (nI n) sm v28 (nI a) v29 v30 := by
    unfold j_X2_reads
    rw [if_neg (by decide), if_neg (by decide), if_neg (by decide), if_neg (by decide), if_neg (by decide), if_pos (by decide)]
    rfl
  have eC2 : j_X1_readGolomb w (nI n) (nI a) (nI p) = (if nI c = (0 : Int32) then (some ((nI r).toInt64 + (1 : Int64), nI (a + r + 1))) else ((j_X0_readBits w (nI n) (nI (a + r + 1)) (0 : Int64) (nI c - (1 : Int32))).bind fun (v6, v7) => (if v6 < lN s then (some ((((nI r).toInt64 * (nI p).toInt64) + v6) + (1 : Int64), v7)) else ((j_X0_readBit w (nI n) v7).bind fun (v9, v10) => (some ((((nI r).toInt64 * (nI p).toInt64) + ((((2 : Int64) * v6) + v9.toInt64) - lN s)) + (1 : Int64), v10)))))) := by
    unfold j_X1_readGolomb
    rw [e2, Option.bind_some]
    show ((j_X1_golombWidth (nI p)).bind fun v3 => _) = _
    rw [hw, Option.bind_some, hs, Option.bind_some]
  rw [eC, eM]
  by_cases c1 : a + r < n
  · rw [if_pos c1] at e1
    have e1 : j_X2_run rw (nI n) (nI a) (nI 0) (1 : Int32) = some (nI r, nI (a + r), nI 0) := e1
    have eM2 : j_X2_readQuotient rw (nI n) (nI a) (nI 0) (nI p) = (if nI c ≤ (0 : Int32) then (jS_X2_readQuotient_58 rw (nI n) (nI p) (nI r).toInt64 (nI c) (lN s) (0 : Int64) (nI (a + r) + (1 : Int32)) (nI 0)) else ((j_X2_some rw (nI n) (nI (a + r) + (1 : Int32)) (nI 0) (nI c - (1 : Int32))).bind fun (v7, v8, v9) => (jS_X2_readQuotient_58 rw (nI n) (nI p) (nI r).toInt64 (nI c) (lN s) v7 v8 v9))) := by
      unfold j_X2_readQuotient
      rw [e1, Option.bind_some]
      show (if nI 0 = (0 : Int32) then ((j_X2_powerFor (nI p)).bind fun v5 => _) else _) = _
      rw [if_pos (show nI 0 = (0 : Int32) from rfl), hpf, Option.bind_some, hs2]
    rw [eC2, eM2, q_i2l (show r < 2147483648 by omega), q_i2l (show p < 2147483648 by omega), q_i1, nI_add, q_l1, q_l0, q_i0]
    by_cases c0 : c = 0
    · rw [if_pos (by rw [c0]), if_pos (by rw [c0]; decide), q_58a (by omega) h2 (by omega) (by omega) (Or.inl c0), Option.bind_some, Option.bind_some, lN_add]
      have hp1 : p = 1 := by
        rw [c0] at hup
        have : p ≤ 1 := hup
        omega
      have hq : q_num (r * p + 0 + 1) := ⟨by omega, by omega⟩
      refine Or.inl ⟨_, _, hq, by omega, by omega, ?_, q_196 hq⟩
      rw [hp1, Nat.mul_one]
    · rw [if_neg (fun h9 => c0 ((q_eq (by omega) (by omega)).mp h9)), if_neg (fun h9 => by have := (q_le (by omega) (by omega)).mp h9; omega), q_sub (by omega), q_readBits h (by omega) (by omega), Option.bind_some]
      have hX := q_val_lt hf (a + r + 1) (c - 1)
      have hXp : 2 ^ (c - 1) ≤ 2 ^ 20 := Nat.pow_le_pow_right (by decide) (by omega)
      rw [Nat.zero_mul, Nat.zero_add]
      have hB := hf (a + r + 1 + (c - 1))
      have hsm := q_someM (b := c - 1) (c := a + r + 1) hm hf hn (by omega) (by omega)
      generalize q_val f (a + r + 1) (c - 1) = X at hX hsm ⊢
      show q_rr n a ((if lN X < lN s then (some (((lN r * lN p) + lN X) + lN 1, nI (a + r + 1 + (c - 1)))) else ((j_X0_readBit w (nI n) (nI (a + r + 1 + (c - 1)))).bind fun (v9, v10) => (some (((lN r * lN p) + (((lN 2 * lN X) + v9.toInt64) - lN s)) + lN 1, v10)))).bind fun (v7, v8) => some (v7, v8)) _
      by_cases c2 : X < s
      · rw [if_pos ((q_llt (by omega) (by omega)).mpr c2), Option.bind_some, lN_mul, lN_add, lN_add]
        by_cases c3 : a + r + 1 + (c - 1) ≤ n
        · rw [hsm.1 c3, Option.bind_some]
          have hq : q_num (r * p + X + 1) := ⟨by omega, by omega⟩
          refine Or.inl ⟨_, _, hq, by omega, c3, rfl, ?_⟩
          show (jS_X2_readQuotient_58 rw (nI n) (nI p) (lN r) (nI c) (lN s) (lN X) (nI (a + r + 1 + (c - 1))) (nI 0)).bind _ = _
          rw [q_58a (by omega) h2 (by omega) (by omega) (Or.inr c2), Option.bind_some]
          exact q_196 hq
        · obtain ⟨x, y, e9⟩ := hsm.2 (by omega)
          rw [e9, Option.bind_some]
          refine Or.inr ⟨⟨_, _, rfl, Or.inr ⟨a + r + 1 + (c - 1), by omega, by omega, rfl⟩⟩, ?_⟩
          obtain ⟨x2, e10⟩ := q_58n (rw := rw) (mn := nI n) (x1 := nI p) (x4 := nI c) (x2 := lN r) (x5 := lN s) (y0 := x) (fr := y)
          show q_Mf a ((jS_X2_readQuotient_58 rw (nI n) (nI p) (lN r) (nI c) (lN s) x y (nI 1)).bind _)
          rw [e10, Option.bind_some]
          exact q_196n (rw := rw) (mn := nI n) (sm := sm) (x := x2) (a := a) (fr := y)
      · rw [if_neg (fun h9 => c2 ((q_llt (by omega) (by omega)).mp h9)), q_readBit h (by omega), Option.bind_some]
        generalize hE : a + r + 1 + (c - 1) = E at hB hsm
        show q_rr n a (some (((lN r * lN p) + (((lN 2 * lN X) + (nI (f E)).toInt64) - lN s)) + lN 1, nI (E + 1))) _
        have eV : ((lN r * lN p) + (((lN 2 * lN X) + (nI (f E)).toInt64) - lN s)) + lN 1 = lN (r * p + (2 * X + f E - s) + 1) := by
          rw [q_i2l (by omega), lN_mul, lN_mul, lN_add, q_lsub (by omega), lN_add, lN_add]
        rw [eV]
        by_cases c3 : E ≤ n
        · rw [hsm.1 c3, Option.bind_some]
          show q_rr n a _ ((jS_X2_readQuotient_58 rw (nI n) (nI p) (lN r) (nI c) (lN s) (lN X) (nI E) (nI 0)).bind _)
          rw [q_58b (e := 0) (by omega) (by omega) (by omega) (by omega) (by omega)]
          by_cases c4 : E < n
          · rw [q_next hm hn c4, Option.bind_some]
            show q_rr n a _ ((jS_X2_readQuotient_97 rw (nI n) (nI p) (lN r) (((lN 2 * lN X) + (nI (f E)).toInt64) - lN s) (nI (E + 1)) (nI 0)).bind _)
            unfold jS_X2_readQuotient_97
            rw [q_i2l (show p < 2147483648 by omega), q_l1, eV, Option.bind_some]
            have hq : q_num (r * p + (2 * X + f E - s) + 1) := ⟨by omega, by omega⟩
            exact Or.inl ⟨_, _, hq, by omega, by omega, rfl, q_196 hq⟩
          · rw [q_nextNo hn (by omega) (by omega), Option.bind_some]
            refine Or.inr ⟨⟨_, _, rfl, Or.inr ⟨E + 1, by omega, by omega, rfl⟩⟩, ?_⟩
            exact q_196n (rw := rw) (mn := nI n) (sm := sm) (x := ((lN r * (nI p).toInt64) + (((lN 2 * lN X) + (nI 0).toInt64) - lN s)) + (1 : Int64)) (a := a) (fr := nI E)
        · obtain ⟨x, y, e9⟩ := hsm.2 (by omega)
          rw [e9, Option.bind_some]
          refine Or.inr ⟨⟨_, _, rfl, Or.inr ⟨E + 1, by omega, by omega, rfl⟩⟩, ?_⟩
          obtain ⟨x2, e10⟩ := q_58n (rw := rw) (mn := nI n) (x1 := nI p) (x4 := nI c) (x2 := lN r) (x5 := lN s) (y0 := x) (fr := y)
          show q_Mf a ((jS_X2_readQuotient_58 rw (nI n) (nI p) (lN r) (nI c) (lN s) x y (nI 1)).bind _)
          rw [e10, Option.bind_some]
          exact q_196n (rw := rw) (mn := nI n) (sm := sm) (x := x2) (a := a) (fr := y)
  · rw [if_neg c1] at e1
    have e1 : j_X2_run rw (nI n) (nI a) (nI 0) (1 : Int32) = some (nI r, nI (a + r), nI 1) := e1
    refine Or.inr ⟨?_, ?_⟩
    · rw [eC2]
      by_cases c0 : nI c = (0 : Int32)
      · rw [if_pos c0]
        exact ⟨_, _, rfl, Or.inr ⟨a + r + 1, by omega, by omega, rfl⟩⟩
      · have c9 : c ≠ 0 := fun e => c0 (by rw [e]; rfl)
        rw [if_neg c0, q_i1, q_sub (by omega), q_l0, q_readBits h (by omega) (by omega), Option.bind_some]
        show q_Cf n ((if lN (0 * 2 ^ (c - 1) + q_val f (a + r + 1) (c - 1)) < lN s then (some ((((nI r).toInt64 * (nI p).toInt64) + lN (0 * 2 ^ (c - 1) + q_val f (a + r + 1) (c - 1))) + (1 : Int64), nI (a + r + 1 + (c - 1)))) else ((j_X0_readBit w (nI n) (nI (a + r + 1 + (c - 1)))).bind fun (v9, v10) => (some ((((nI r).toInt64 * (nI p).toInt64) + (((lN 2 * lN (0 * 2 ^ (c - 1) + q_val f (a + r + 1) (c - 1))) + v9.toInt64) - lN s)) + (1 : Int64), v10)))).bind fun (v7, v8) => some (v7, v8))
        split
        · exact ⟨_, _, rfl, Or.inr ⟨a + r + 1 + (c - 1), by omega, by omega, rfl⟩⟩
        · rw [q_readBit h (by omega), Option.bind_some]
          exact ⟨_, _, rfl, Or.inr ⟨a + r + 1 + (c - 1) + 1, by omega, by omega, rfl⟩⟩
    · unfold j_X2_readQuotient
      rw [e1, Option.bind_some]
      exact q_196n (rw := rw) (mn := nI n) (sm := sm) (x := 0) (a := a) (fr := nI (a + r))
