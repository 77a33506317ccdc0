/-! make, puts, appendIfRoom. -/
theorem q_cat0 (g h : Nat → Nat) : q_cat g 0 h = h := by
  funext i
  unfold q_cat
  rw [if_neg (by omega)]
  rfl
theorem q_mkM {sm : Nat → Int64} (hsm : ∀ i, 1 ≤ i → i < 92 → sm i = lN (q_F (i - 1))) {wd : Nat → Int32} {md : Int32} {k p n : Nat} (ho : q_ok k p) (hn : q_num n) (hl : q_len k p n ≤ 4096) : ∃ wd', j_X2_make wd md sm (nI k) (nI p) (lN n) = some (wd', nI (q_len k p n)) ∧ q_wo wd' (q_cw k p n) (q_len k p n) := by
  obtain ⟨n1, n2⟩ := id hn
  obtain ⟨k7, o1, o2, o3, o4⟩ := ho
  have hb : q_bl n ≤ 63 := q_bl_le.mpr (by omega)
  have hb0 : 0 < q_bl n := q_bl_pos (by omega)
  have hbb : q_bl (q_bl n) ≤ 6 := q_bl_le.mpr (by omega)
  have hbb0 : 0 < q_bl (q_bl n) := q_bl_pos hb0
  have w0 : q_wo wd (fun _ => 0) 0 := fun i hi => by omega
  unfold j_X2_make
  rcases (show k = 0 ∨ k = 1 ∨ k = 2 ∨ k = 3 ∨ k = 4 ∨ k = 5 ∨ k = 6 ∨ k = 7 by omega) with rfl | rfl | rfl | rfl | rfl | rfl | rfl | rfl
  · have el : q_len 0 p n = n := rfl
    rw [el] at hl ⊢
    obtain ⟨w1, e1, r1⟩ := q_onesM (m := n - 1) (l := 0) (by omega) w0
    rw [show 0 + (n - 1 + 1) = n by omega] at e1 r1
    rw [q_cat0] at r1
    have e1 : j_X2_ones wd (0 : Int32) (lN (n - 1)) = some (w1, nI n) := e1
    rw [if_pos (by decide), show (1 : Int64) = lN 1 from rfl, q_lsub n1, e1]
    exact ⟨w1, rfl, r1⟩
  · have el : q_len 1 p n = 2 * q_bl n - 1 := rfl
    rw [el] at hl ⊢
    obtain ⟨w1, e1, r1⟩ := q_doubled n1 (by omega) (l := 0) (by omega) w0
    rw [Nat.zero_add] at e1 r1
    rw [q_cat0] at r1
    have e1 : j_X2_doubled wd (0 : Int32) (lN n) = some (w1, nI (2 * q_bl n - 1)) := e1
    rw [if_neg (by decide), if_pos (by decide), e1]
    exact ⟨w1, rfl, r1⟩
  · have el : q_len 2 p n = 2 * q_bl (q_bl n) - 1 + q_bl n - 1 := rfl
    rw [el] at hl ⊢
    obtain ⟨w1, e1, r1⟩ := q_doubled (v := q_bl n) hb0 (by omega) (l := 0) (by omega) w0
    rw [Nat.zero_add] at e1 r1
    rw [q_cat0] at r1
    have e1 : j_X2_doubled wd (0 : Int32) (lN (q_bl n)) = some (w1, nI (2 * q_bl (q_bl n) - 1)) := e1
    obtain ⟨w2, e2, r2⟩ := q_low (v := n) (k := q_bl n - 1) (by omega) (by omega) (by omega) r1
    rw [if_neg (by decide), if_neg (by decide), if_pos (by decide)]
    have ed : nI (q_bl n) - (1 : Int32) = nI (q_bl n - 1) := by rw [show (1 : Int32) = nI 1 from rfl, q_sub (by omega)]
    simp only [q_bitsOf (show n < 9223372036854775808 by omega), Option.bind_some, q_i2l (show q_bl n < 2147483648 by omega), e1, ed, e2]
    rw [show 2 * q_bl (q_bl n) - 1 + (q_bl n - 1) = 2 * q_bl (q_bl n) - 1 + q_bl n - 1 by omega] at r2 ⊢
    exact ⟨w2, rfl, r2⟩
  · obtain ⟨w1, e1, r1⟩ := q_chain (wd := wd) (md := (0 : Int32)) n1 (show n < 9223372036854775808 by omega)
    rw [if_neg (by decide), if_neg (by decide), if_neg (by decide), if_pos (by decide), e1]
    exact ⟨w1, rfl, r1⟩
  · obtain ⟨w1, e1, r1⟩ := q_bySums hsm (wd := wd) (md := (0 : Int32)) hn
    rw [if_neg (by decide), if_neg (by decide), if_neg (by decide), if_neg (by decide), if_pos (by decide), e1]
    exact ⟨w1, rfl, r1⟩
  · have el : q_len 5 p n = q_gl p n := rfl
    rw [el] at hl ⊢
    obtain ⟨w1, e1, r1⟩ := q_byQuotient (wd := wd) (o2 rfl).1 (o2 rfl).2 hn hl
    have e1 : j_X2_byQuotient wd (0 : Int32) (nI p) (lN n) = some (w1, nI (q_gl p n)) := e1
    rw [if_neg (by decide), if_neg (by decide), if_neg (by decide), if_neg (by decide), if_neg (by decide), if_pos (by decide), e1]
    exact ⟨w1, rfl, r1⟩
  · have el : q_len 6 p n = 2 * q_bl ((n - 1) / 2 ^ p + 1) - 1 + p := rfl
    rw [el] at hl ⊢
    have hp := o3 rfl
    have hd : (n - 1) / 2 ^ p ≤ n - 1 := Nat.div_le_self _ _
    have hb6 : q_bl ((n - 1) / 2 ^ p + 1) ≤ 63 := q_bl_le.mpr (by omega)
    obtain ⟨w1, e1, r1⟩ := q_doubled (v := (n - 1) / 2 ^ p + 1) (Nat.succ_pos _) (by omega) (l := 0) (by omega) w0
    rw [Nat.zero_add] at e1 r1
    rw [q_cat0] at r1
    have e1 : j_X2_doubled wd (0 : Int32) (lN ((n - 1) / 2 ^ p + 1)) = some (w1, nI (2 * q_bl ((n - 1) / 2 ^ p + 1) - 1)) := e1
    obtain ⟨w2, e2, r2⟩ := q_low (v := n - 1) (k := p) (by omega) (by omega) (by omega) r1
    rw [if_neg (by decide), if_neg (by decide), if_neg (by decide), if_neg (by decide), if_neg (by decide), if_neg (by decide), if_pos (by decide)]
    have ea : (lN n - (1 : Int64)) = lN (n - 1) := by rw [show (1 : Int64) = lN 1 from rfl, q_lsub n1]
    have eb : lN ((n - 1) / 2 ^ p) + (1 : Int64) = lN ((n - 1) / 2 ^ p + 1) := by rw [show (1 : Int64) = lN 1 from rfl, lN_add]
    simp only [ea, q_lsr (show n - 1 < 9223372036854775808 by omega) (show p < 64 by omega), eb, e1, e2, Option.bind_some]
    exact ⟨w2, rfl, r2⟩
  · have el : q_len 7 p n = q_gr p n * (p + 1) := rfl
    rw [el] at hl ⊢
    obtain ⟨p1, p2⟩ := o4 rfl
    have hg := q_gr_le p1 hn
    have hs := q_gr_spec (p := p) (n := n) p1
    obtain ⟨w1, e1, r1⟩ := q_grpM p1 p2 (q_gr p n) jF (n - 1) 0 _ wd hg.2 hs.1 hs.2 (by omega) (by unfold jF; omega) (by omega) w0
    rw [Nat.zero_add] at e1 r1
    rw [q_cat0] at r1
    rw [if_neg (by decide), if_neg (by decide), if_neg (by decide), if_neg (by decide), if_neg (by decide), if_neg (by decide), if_neg (by decide)]
    have e2 : j_X2_byGroups wd (0 : Int32) (nI p) (lN n) = some (w1, nI (q_gr p n * (p + 1))) := by
      unfold j_X2_byGroups
      rw [show (1 : Int64) = lN 1 from rfl, q_lsub n1]
      exact e1
    rw [e2]
    exact ⟨w1, rfl, r1⟩
/-- what the reference holds: the row f of n bits -/
def q_rm (rw : Nat → Int32) (f : Nat → Nat) (n : Nat) : Prop := ∀ i, i < n → rw i = nI (f i)
theorem q_putsL {sm : Nat → Int64} {wd : Nat → Int32} {f g : Nat → Nat} {n L : Nat} (hw : q_wo wd g L) (hL : n + L ≤ 4096) : ∀ (m z k : Nat) (rw : Nat → Int32), k + m = L → m < z → (∀ i, i < n + k → rw i = nI (q_ap f n g L i)) → ∃ rw', jL_X2_puts_32 wd (nI L) sm z (nI k) rw (nI (n + k)) = some (nI 1, rw', nI (n + L), wd, nI L) ∧ q_rm rw' (q_ap f n g L) (n + L) := by
  intro m
  induction m with
  | zero =>
    intro z k rw hk hz h
    cases z with
    | zero => omega
    | succ z =>
      show ∃ rw', (if nI L ≤ nI k then some ((1 : Int32), rw, nI (n + k), wd, nI L) else _) = _ ∧ _
      rw [if_pos ((q_le (by omega) (by omega)).mpr (by omega))]
      rw [show k = L by omega] at h ⊢
      exact ⟨rw, rfl, h⟩
  | succ m ih =>
    intro z k rw hk hz h
    cases z with
    | zero => omega
    | succ z =>
      show ∃ rw', (if nI L ≤ nI k then _ else jix (nI k) 4200 (jix (nI (n + k)) 4096 (jL_X2_puts_32 wd (nI L) sm z (nI k + nI 1) (upd rw (nI (n + k)).toNatClampNeg (wd (nI k).toNatClampNeg)) (nI (n + k) + nI 1)))) = _ ∧ _
      rw [if_neg (fun h9 => by have := (q_le (by omega) (by omega)).mp h9; omega), q_jix (by omega) (by omega), q_jix (by omega) (by omega), q_clamp (by omega), q_clamp (by omega), nI_add, nI_add, hw k (by omega)]
      obtain ⟨rw', e, r⟩ := ih z (k + 1) (upd rw (n + k) (nI (g k))) (by omega) (by omega) (fun i hi => by
        by_cases a : i = n + k
        · subst a
          rw [pk_us]
          unfold q_ap
          rw [if_neg (by omega), if_pos (by omega), show n + k - n = k by omega]
        · rw [pk_un a]
          exact h i (by omega))
      exact ⟨rw', e, r⟩
theorem q_puts {sm : Nat → Int64} (hsm : ∀ i, 1 ≤ i → i < 92 → sm i = lN (q_F (i - 1))) {rw wd : Nat → Int32} {md : Int32} {f : Nat → Nat} {m k p n : Nat} (h : q_rm rw f m) (hm : m ≤ 4096) (ho : q_ok k p) (hn : q_num n) (hl : m + q_len k p n ≤ 4096) : ∃ rw' wd' md', j_X2_puts rw (nI m) wd md sm (nI k) (nI p) (lN n) = some (nI 1, rw', nI (m + q_len k p n), wd', md') ∧ q_rm rw' (q_ap f m (q_cw k p n) (q_len k p n)) (m + q_len k p n) := by
  obtain ⟨wd', e1, r1⟩ := q_mkM hsm (wd := wd) (md := md) ho hn (by omega)
  obtain ⟨rw', e2, r2⟩ := q_putsL (sm := sm) (f := f) r1 hl (q_len k p n) jF 0 rw (by omega) (by unfold jF; omega) (fun i hi => by
    unfold q_ap
    rw [if_pos (by omega)]
    exact h i (by omega))
  refine ⟨rw', wd', nI (q_len k p n), ?_, r2⟩
  unfold j_X2_puts
  rw [q_lenM hsm ho hn, Option.bind_some, show (4096 : Int32) = nI 4096 from rfl, q_sub hm, q_i2l (by omega), if_pos ((q_lle (by omega) (by omega)).mpr (by omega)), e1, Option.bind_some]
  rw [Nat.add_zero, ← q_i0] at e2
  exact e2
theorem q_putsNo {sm : Nat → Int64} (hsm : ∀ i, 1 ≤ i → i < 92 → sm i = lN (q_F (i - 1))) {rw wd : Nat → Int32} {md : Int32} {m k p n : Nat} (hm : m ≤ 4096) (ho : q_ok k p) (hn : q_num n) (hq : q_len k p n < 9223372036854775808) (hl : 4096 < m + q_len k p n) : j_X2_puts rw (nI m) wd md sm (nI k) (nI p) (lN n) = some (nI 0, rw, nI m, wd, md) := by
  unfold j_X2_puts
  rw [q_lenM hsm ho hn, Option.bind_some, show (4096 : Int32) = nI 4096 from rfl, q_sub hm, q_i2l (by omega), if_neg (fun h9 => by have := (q_lle hq (by omega)).mp h9; omega)]
  rfl
theorem q_appIf {fb : Nat → Int64} (hfb : ∀ i, i < 89 → fb i = lN (q_F i)) {w : Nat → Int64} {f : Nat → Nat} {m k p n : Nat} (h : q_row w f m) (ho : q_ok k p) (hn : q_num n) (hl : m + q_len k p n ≤ 4096) : ∃ w', j_X1_appendIfRoom w (nI m) fb (nI k) (nI p) (lN n) = some (nI 1, w', nI (m + q_len k p n)) ∧ q_row w' (q_ap f m (q_cw k p n) (q_len k p n)) (m + q_len k p n) := by
  obtain ⟨w', e, r⟩ := q_appC hfb h ho hn hl
  refine ⟨w', ?_, r⟩
  have hm := h.2.2.1
  unfold j_X1_appendIfRoom j_X0_room
  rw [q_lenC hfb ho hn, Option.bind_some, Option.bind_some, show (4096 : Int32) = nI 4096 from rfl, q_sub hm, q_i2l (by omega), if_pos ((q_lle (by omega) (by omega)).mpr (by omega)), e]
  rfl
theorem q_appIfNo {fb : Nat → Int64} (hfb : ∀ i, i < 89 → fb i = lN (q_F i)) {w : Nat → Int64} {m k p n : Nat} (hm : m ≤ 4096) (ho : q_ok k p) (hn : q_num n) (hq : q_len k p n < 9223372036854775808) (hl : 4096 < m + q_len k p n) : j_X1_appendIfRoom w (nI m) fb (nI k) (nI p) (lN n) = some (nI 0, w, nI m) := by
  unfold j_X1_appendIfRoom j_X0_room
  rw [q_lenC hfb ho hn, Option.bind_some, Option.bind_some, show (4096 : Int32) = nI 4096 from rfl, q_sub hm, q_i2l (by omega), if_neg (fun h9 => by have := (q_lle hq (by omega)).mp h9; omega)]
  rfl
