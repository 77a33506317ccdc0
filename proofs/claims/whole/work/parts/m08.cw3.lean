/-! Kinds 4 and 7. -/
/-- which of the t first sums are taken for r, the greatest first -/
def q_zg : Nat → Nat → Nat → Nat
  | 0, _, _ => 0
  | t + 1, r, i => if i = t then (if q_F t ≤ r then 1 else 0) else q_zg t (if q_F t ≤ r then r - q_F t else r) i
theorem q_zg_le : ∀ (t r i : Nat), q_zg t r i ≤ 1 := by
  intro t
  induction t with
  | zero => intro r i; exact Nat.zero_le 1
  | succ t ih =>
    intro r i
    show (if i = t then (if q_F t ≤ r then 1 else 0) else q_zg t (if q_F t ≤ r then r - q_F t else r) i) ≤ 1
    split
    · split <;> omega
    · exact ih _ _
/-- the codeword of kind 4 -/
def q_zc (n : Nat) : Nat → Nat := fun i => if i < q_fi n + 1 then q_zg (q_fi n + 1) n i else if i = q_fi n + 1 then 1 else 0
theorem q_zc_le (n i : Nat) : q_zc n i ≤ 1 := by
  unfold q_zc
  split
  · exact q_zg_le _ _ _
  · split <;> omega
theorem q_W1 (f : Nat → Nat) (a i : Nat) : q_W f a 1 1 1 i = if i = a then 1 else f i := by
  unfold q_W
  by_cases e : i = a
  · subst e
    rw [if_pos rfl, if_pos ⟨by omega, by omega, by simp⟩]
  · rw [if_neg e, if_neg (by omega)]
theorem q_fibA {fb : Nat → Int64} (hfb : ∀ i, i < 89 → fb i = lN (q_F i)) {n len : Nat} (hl : n + len ≤ 4096) : ∀ (t z r : Nat) (w : Nat → Int64) (h : Nat → Nat), t < len → t ≤ 89 → r < 9223372036854775808 → t < z → (∀ i, i < 4096 → q_wb w i = h i) → (∀ i, n ≤ i → i < n + t → h i = 0) → ∃ w', jL_X1_appendFibonacci_14 (nI n) fb (nI len) z (lN r) (nI t - nI 1) w = some (w', nI (n + len)) ∧ ∀ i, i < 4096 → q_wb w' i = if n ≤ i ∧ i < n + t then q_zg t r (i - n) else if i = n + len - 1 then 1 else h i := by
  intro t
  induction t with
  | zero =>
    intro z r w h ht ht2 hr hz hw hh
    cases z with
    | zero => omega
    | succ z =>
      show ∃ w', (if nI 0 - nI 1 < (0 : Int32) then (j_X0_writeBits w ((nI n + nI len) - nI 1) (lN 1) (nI 1)).bind (fun v1402 => some (v1402, nI n + nI len)) else _) = some (w', _) ∧ _
      rw [if_pos (by decide), nI_add, q_sub (by omega)]
      obtain ⟨w1, e1, g1⟩ := q_writeBits (at_ := n + len - 1) (v := 1) (width := 1) (by omega) (by omega) (by omega) hw
      rw [e1, Option.bind_some]
      refine ⟨w1, rfl, fun i hi => ?_⟩
      rw [g1 i hi, q_W1, if_neg (show ¬ (n ≤ i ∧ i < n + 0) by omega)]
  | succ t ih =>
    intro z r w h ht ht2 hr hz hw hh
    cases z with
    | zero => omega
    | succ z =>
      have e3 : nI t + (-1 : Int32) = nI t - nI 1 := (Int32.sub_eq_add_neg ..).symm
      have hs := q_F_small (i := t) (by omega)
      show ∃ w', (if nI (t + 1) - nI 1 < (0 : Int32) then _ else jix (nI (t + 1) - nI 1) 89 (if lN r < fb (nI (t + 1) - nI 1).toNatClampNeg then jL_X1_appendFibonacci_14 (nI n) fb (nI len) z (lN r) (nI (t + 1) - nI 1 + (-1 : Int32)) w else (j_X0_writeBits w (nI n + (nI (t + 1) - nI 1)) (lN 1) (nI 1)).bind fun v1404 => jix (nI (t + 1) - nI 1) 89 (jL_X1_appendFibonacci_14 (nI n) fb (nI len) z (lN r - fb (nI (t + 1) - nI 1).toNatClampNeg) (nI (t + 1) - nI 1 + (-1 : Int32)) v1404))) = some (w', _) ∧ _
      rw [q_sub (show 1 ≤ t + 1 by omega), show t + 1 - 1 = t from rfl, if_neg (nI_pos (by omega)), q_jix (by omega) (by omega), q_clamp (by omega), hfb t (by omega), e3, nI_add]
      by_cases c : r < q_F t
      · rw [if_pos ((q_llt hr hs).mpr c)]
        obtain ⟨w2, e2, g2⟩ := ih z r w h (by omega) (by omega) hr (by omega) hw (fun i h1 h2 => hh i h1 (by omega))
        refine ⟨w2, e2, fun i hi => ?_⟩
        rw [g2 i hi]
        by_cases a : n ≤ i ∧ i < n + t
        · rw [if_pos a, if_pos (by omega)]
          show _ = if i - n = t then _ else q_zg t (if q_F t ≤ r then r - q_F t else r) (i - n)
          rw [if_neg (by omega), if_neg (by omega)]
        · rw [if_neg a]
          by_cases b : i = n + t
          · subst b
            rw [if_neg (by omega), hh _ (by omega) (by omega), if_pos (by omega)]
            show _ = if n + t - n = t then (if q_F t ≤ r then 1 else 0) else _
            rw [if_pos (by omega), if_neg (by omega)]
          · rw [if_neg (show ¬ (n ≤ i ∧ i < n + (t + 1)) by omega)]
      · rw [if_neg (fun h9 => c ((q_llt hr hs).mp h9))]
        obtain ⟨w1, e1, g1⟩ := q_writeBits (at_ := n + t) (v := 1) (width := 1) (by omega) (by omega) (by omega) hw
        have e1 : j_X0_writeBits w (nI (n + t)) (lN 1) (nI 1) = some w1 := e1
        rw [e1, Option.bind_some, q_jix (by omega) (by omega), q_lsub (by omega)]
        obtain ⟨w2, e2, g2⟩ := ih z (r - q_F t) w1 _ (by omega) (by omega) (by omega) (by omega) g1 (fun i h1 h2 => by
          rw [q_W1, if_neg (by omega)]
          exact hh i h1 (by omega))
        refine ⟨w2, e2, fun i hi => ?_⟩
        rw [g2 i hi]
        by_cases a : n ≤ i ∧ i < n + t
        · rw [if_pos a, if_pos (by omega)]
          show _ = if i - n = t then _ else q_zg t (if q_F t ≤ r then r - q_F t else r) (i - n)
          rw [if_neg (by omega), if_pos (by omega)]
        · rw [if_neg a, q_W1]
          by_cases b : i = n + t
          · subst b
            rw [if_neg (by omega), if_pos rfl, if_pos (by omega)]
            show _ = if n + t - n = t then (if q_F t ≤ r then 1 else 0) else _
            rw [if_pos (by omega), if_pos (by omega)]
          · rw [if_neg b, if_neg (show ¬ (n ≤ i ∧ i < n + (t + 1)) by omega)]
theorem q_appendFib {fb : Nat → Int64} (hfb : ∀ i, i < 89 → fb i = lN (q_F i)) {w : Nat → Int64} {f : Nat → Nat} {m n : Nat} (h : q_row w f m) (hn : q_num n) (hl : m + (q_fi n + 2) ≤ 4096) : ∃ w', j_X1_appendFibonacci w (nI m) fb (lN n) = some (w', nI (m + (q_fi n + 2))) ∧ q_row w' (q_ap f m (q_zc n) (q_fi n + 2)) (m + (q_fi n + 2)) := by
  have h8 := q_fi_le n
  obtain ⟨w', e, g⟩ := q_fibA hfb (n := m) (len := q_fi n + 2) hl (q_fi n + 1) jF n w f (by omega) (by omega) (by have := hn.2; omega) (by unfold jF; omega) h.1 (fun i h1 _ => h.2.1 i h1)
  refine ⟨w', ?_, q_row_ap h (q_zc_le n) hl (fun i hi => ?_)⟩
  · unfold j_X1_appendFibonacci
    rw [q_fibLength hfb hn.1 hn.2, Option.bind_some]
    have e4 : nI (q_fi n + 2) - (2 : Int32) = nI (q_fi n + 1) - nI 1 := by
      rw [show (2 : Int32) = nI 2 from rfl, q_sub (by omega), q_sub (by omega)]
      rfl
    rw [e4]
    exact e
  · rw [g i hi]
    unfold q_ap q_zc
    by_cases a : i < m
    · rw [if_neg (by omega), if_neg (by omega), if_pos a]
    · rw [if_neg a]
      by_cases b : i < m + (q_fi n + 1)
      · rw [if_pos (by omega), if_pos (by omega), if_pos (by omega)]
      · rw [if_neg (by omega)]
        by_cases c : i = m + (q_fi n + 2) - 1
        · rw [if_pos c, if_pos (by omega), if_neg (by omega), if_pos (by omega)]
        · rw [if_neg c, h.2.1 i (by omega), if_neg (by omega)]
theorem q_sumsL {sm : Nat → Int64} (hsm : ∀ i, 1 ≤ i → i < 92 → sm i = lN (q_F (i - 1))) {md : Int32} {top : Nat} (ht : top ≤ 90) : ∀ (k z r : Nat) (wd : Nat → Int32), k ≤ top → r < 9223372036854775808 → k < z → ∃ wd', jL_X2_bySums_12 md sm (nI top) z (lN r) (nI k) wd = some (wd', nI (top + 1)) ∧ ∀ i, wd' i = if i < k then nI (q_zg k r i) else if i = top then nI 1 else wd i := by
  intro k
  induction k with
  | zero =>
    intro z r wd hk hr hz
    cases z with
    | zero => omega
    | succ z =>
      show ∃ wd', (if nI 0 ≤ nI 0 then jix (nI top) 4200 (some (upd wd (nI top).toNatClampNeg (nI 1), nI top + nI 1)) else _) = _ ∧ _
      rw [if_pos (by decide), q_jix (by omega) (by omega), q_clamp (by omega), nI_add]
      refine ⟨_, rfl, fun i => ?_⟩
      rw [if_neg (by omega)]
      by_cases e : i = top
      · subst e; rw [pk_us, if_pos rfl]
      · rw [pk_un e, if_neg e]
  | succ k ih =>
    intro z r wd hk hr hz
    cases z with
    | zero => omega
    | succ z =>
      have hs := q_F_small (i := k) (by omega)
      show ∃ wd', (if nI (k + 1) ≤ nI 0 then _ else jix (nI (k + 1)) 92 (if lN r < sm (nI (k + 1)).toNatClampNeg then jix (nI (k + 1) - nI 1) 4200 (jL_X2_bySums_12 md sm (nI top) z (lN r) (nI (k + 1) + -nI 1) (upd wd (nI (k + 1) - nI 1).toNatClampNeg (nI 0))) else jix (nI (k + 1) - nI 1) 4200 (jix (nI (k + 1)) 92 (jL_X2_bySums_12 md sm (nI top) z (lN r - sm (nI (k + 1)).toNatClampNeg) (nI (k + 1) + -nI 1) (upd wd (nI (k + 1) - nI 1).toNatClampNeg (nI 1)))))) = _ ∧ _
      rw [if_neg (fun h9 => by have := (q_le (by omega) (by omega)).mp h9; omega), q_jix (by omega) (by omega), q_clamp (by omega), hsm (k + 1) (by omega) (by omega), show k + 1 - 1 = k from rfl, q_sub (show 1 ≤ k + 1 by omega), q_neg (show 1 ≤ k + 1 by omega), show k + 1 - 1 = k from rfl, q_jix (by omega) (by omega), q_jix (by omega) (by omega), q_jix (by omega) (by omega), q_clamp (by omega)]
      by_cases c : r < q_F k
      · rw [if_pos ((q_llt hr hs).mpr c)]
        obtain ⟨w2, e2, g2⟩ := ih z r (upd wd k (nI 0)) (by omega) hr (by omega)
        refine ⟨w2, e2, fun i => ?_⟩
        rw [g2 i]
        by_cases a : i < k
        · rw [if_pos a, if_pos (by omega)]
          show _ = nI (if i = k then _ else q_zg k (if q_F k ≤ r then r - q_F k else r) i)
          rw [if_neg (by omega), if_neg (by omega)]
        · rw [if_neg a]
          by_cases b : i = k
          · subst b
            rw [if_neg (by omega), pk_us, if_pos (by omega)]
            show _ = nI (if i = i then (if q_F i ≤ r then 1 else 0) else _)
            rw [if_pos rfl, if_neg (by omega)]
          · rw [pk_un b, if_neg (show ¬ i < k + 1 by omega)]
      · rw [if_neg (fun h9 => c ((q_llt hr hs).mp h9)), q_lsub (by omega)]
        obtain ⟨w2, e2, g2⟩ := ih z (r - q_F k) (upd wd k (nI 1)) (by omega) (by omega) (by omega)
        refine ⟨w2, e2, fun i => ?_⟩
        rw [g2 i]
        by_cases a : i < k
        · rw [if_pos a, if_pos (by omega)]
          show _ = nI (if i = k then _ else q_zg k (if q_F k ≤ r then r - q_F k else r) i)
          rw [if_neg (by omega), if_pos (by omega)]
        · rw [if_neg a]
          by_cases b : i = k
          · subst b
            rw [if_neg (by omega), pk_us, if_pos (by omega)]
            show _ = nI (if i = i then (if q_F i ≤ r then 1 else 0) else _)
            rw [if_pos rfl, if_pos (by omega)]
          · rw [pk_un b, if_neg (show ¬ i < k + 1 by omega)]
theorem q_bySums {sm : Nat → Int64} (hsm : ∀ i, 1 ≤ i → i < 92 → sm i = lN (q_F (i - 1))) {wd : Nat → Int32} {md : Int32} {n : Nat} (hn : q_num n) : ∃ wd', j_X2_bySums wd md sm (lN n) = some (wd', nI (q_fi n + 2)) ∧ q_wo wd' (q_zc n) (q_fi n + 2) := by
  have h8 := q_fi_le n
  obtain ⟨w', e, g⟩ := q_sumsL hsm (md := md) (top := q_fi n + 1) (by omega) (q_fi n + 1) jF n wd (by omega) (by have := hn.2; omega) (by unfold jF; omega)
  refine ⟨w', ?_, fun i hi => ?_⟩
  · unfold j_X2_bySums
    rw [q_greatest hsm hn.1 hn.2, Option.bind_some]
    exact e
  · rw [g i]
    unfold q_zc
    by_cases a : i < q_fi n + 1
    · rw [if_pos a, if_pos a]
    · rw [if_neg a, if_neg a, if_pos (by omega), if_pos (by omega)]
/-- r groups of p bits of v, the lowest first -/
def q_gc (p : Nat) : Nat → Nat → Nat → Nat
  | 0, _ => fun _ => 0
  | r + 1, v => q_cat (fun i => if i = 0 then (if r = 0 then 0 else 1) else q_ms v p (i - 1)) (p + 1) (q_gc p r (v / 2 ^ p))
theorem q_gc_le (p : Nat) : ∀ (r v i : Nat), q_gc p r v i ≤ 1 := by
  intro r
  induction r with
  | zero => intro v i; exact Nat.zero_le 1
  | succ r ih =>
    intro v i
    show q_cat (fun i => if i = 0 then (if r = 0 then 0 else 1) else q_ms v p (i - 1)) (p + 1) (q_gc p r (v / 2 ^ p)) i ≤ 1
    unfold q_cat
    split
    · dsimp only
      split
      · split <;> omega
      · exact q_ms_le _ _ _
    · exact ih _ _
theorem q_g1 (b p v : Nat) (hb : b ≤ 1) : ∀ i, i < 1 + p → q_cat (q_ms b 1) 1 (q_ms v p) i = if i = 0 then b else q_ms v p (i - 1) := by
  intro i hi
  unfold q_cat
  by_cases e : i = 0
  · subst e
    rw [if_pos (by omega), if_pos rfl]
    unfold q_ms
    simp
    omega
  · rw [if_neg (by omega), if_neg e]
theorem q_grpA {p G : Nat} (h1 : 1 ≤ p) (h2 : p ≤ 16) (hG : G ≤ 100) : ∀ (r z grp v n : Nat) (w : Nat → Int64) (f : Nat → Nat), grp + r = G + 1 → r < z → v < 4611686018427387904 → q_row w f n → n + r * (p + 1) ≤ 4096 → ∃ w', jL_X1_appendGroups_15 (nI p) (nI G) z (lN v) (nI grp) w (nI n) = some (w', nI (n + r * (p + 1))) ∧ q_row w' (q_ap f n (q_gc p r v) (r * (p + 1))) (n + r * (p + 1)) := by
  intro r
  induction r with
  | zero =>
    intro z grp v n w f hg hz hv h hl
    cases z with
    | zero => omega
    | succ z =>
      show ∃ w', (if nI G < nI grp then some (w, nI n) else _) = some (w', _) ∧ _
      rw [if_pos ((q_lt (by omega) (by omega)).mpr (by omega)), Nat.zero_mul]
      refine ⟨w, rfl, ?_⟩
      have e : q_ap f n (q_gc p 0 v) 0 = f := by
        funext i
        unfold q_ap
        by_cases a : i < n
        · rw [if_pos a]
        · rw [if_neg a, if_neg (by omega), h.2.1 i (by omega)]
      rw [e]
      exact h
  | succ r ih =>
    intro z grp v n w f hg hz hv h hl
    have hl2 : (r + 1) * (p + 1) = p + 1 + r * (p + 1) := by rw [Nat.succ_mul]; omega
    rw [hl2] at hl ⊢
    cases z with
    | zero => omega
    | succ z =>
      have hd : v / 2 ^ p ≤ v := Nat.div_le_self _ _
      have key : ∀ (b : Nat), b ≤ 1 → (b = if r = 0 then 0 else 1) → ∃ w', ((j_X0_appendBits w (nI n) (lN b) (nI 1)).bind fun (v1503, v1504) => ((j_X0_appendBits v1503 v1504 (lN v) (nI p)).bind fun (v1505, v1506) => (jL_X1_appendGroups_15 (nI p) (nI G) z (lN v >>> ((nI p).toInt64 &&& 63)) (nI grp + nI 1) v1505 v1506))) = some (w', nI (n + (p + 1 + r * (p + 1)))) ∧ q_row w' (q_ap f n (q_gc p (r + 1) v) (p + 1 + r * (p + 1))) (n + (p + 1 + r * (p + 1))) := by
        intro b hb hbr
        obtain ⟨w1, e1, r1⟩ := q_appendBits (v := b) (width := 1) h (by omega) (by omega) (by omega)
        obtain ⟨w2, e2, r2⟩ := q_appendBits (v := v) (width := p) r1 (by omega) (by omega) (by omega)
        rw [q_ap_cat, q_ap_ext (q_g1 b p v hb)] at r2
        obtain ⟨w3, e3, r3⟩ := ih z (grp + 1) (v / 2 ^ p) (n + 1 + p) w2 _ (by omega) (by omega) (by omega) r2 (by omega)
        rw [show n + 1 + p = n + (1 + p) by omega, q_ap_cat] at r3
        refine ⟨w3, ?_, ?_⟩
        · simp only [e1, e2, Option.bind_some, q_lsr (show v < 9223372036854775808 by omega) (show p < 64 by omega), nI_add, e3]
          rw [show n + 1 + p + r * (p + 1) = n + (p + 1 + r * (p + 1)) by omega]
        · rw [show n + (p + 1 + r * (p + 1)) = n + (1 + p) + r * (p + 1) by omega, show p + 1 + r * (p + 1) = 1 + p + r * (p + 1) by omega]
          have e5 : q_cat (fun i => if i = 0 then b else q_ms v p (i - 1)) (1 + p) (q_gc p r (v / 2 ^ p)) = q_gc p (r + 1) v := by
            show _ = q_cat (fun i => if i = 0 then (if r = 0 then 0 else 1) else q_ms v p (i - 1)) (p + 1) (q_gc p r (v / 2 ^ p))
            rw [← hbr, Nat.add_comm 1 p]
          rw [e5] at r3
          exact r3
      show ∃ w', (if nI G < nI grp then some (w, nI n) else if nI G ≤ nI grp then ((j_X0_appendBits w (nI n) (lN 0) (nI 1)).bind fun (v1503, v1504) => ((j_X0_appendBits v1503 v1504 (lN v) (nI p)).bind fun (v1505, v1506) => (jL_X1_appendGroups_15 (nI p) (nI G) z (lN v >>> ((nI p).toInt64 &&& 63)) (nI grp + nI 1) v1505 v1506))) else ((j_X0_appendBits w (nI n) (lN 1) (nI 1)).bind fun (v1507, v1508) => ((j_X0_appendBits v1507 v1508 (lN v) (nI p)).bind fun (v1509, v1510) => (jL_X1_appendGroups_15 (nI p) (nI G) z (lN v >>> ((nI p).toInt64 &&& 63)) (nI grp + nI 1) v1509 v1510)))) = some (w', _) ∧ _
      rw [if_neg (fun h9 => by have := (q_lt (by omega) (by omega)).mp h9; omega)]
      by_cases c : r = 0
      · rw [if_pos ((q_le (by omega) (by omega)).mpr (by omega))]
        exact key 0 (by omega) (by rw [if_pos c])
      · rw [if_neg (fun h9 => by have := (q_le (by omega) (by omega)).mp h9; omega)]
        exact key 1 (by omega) (by rw [if_neg c])
