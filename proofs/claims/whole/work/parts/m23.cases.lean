/-! The invariant of a run, and the law's cases, first half. -/
def q_J (w : Nat → Int64) (en pl : Int32) (li : Nat → Int64) (ld : Int32) (fb : Nat → Int64) (rw : Nat → Int32) (mn at_ : Int32) (ml : Nat → Int64) (md_l : Int32) (sm : Nat → Int64) : Prop :=
  ∃ (f : Nat → Nat) (n a d : Nat) (g : Nat → Nat), q_row w f n ∧ q_rm rw f n ∧ a ≤ n ∧ d ≤ 100 ∧ q_li li ml g d ∧ (∀ i, i < 89 → fb i = lN (q_F i)) ∧ (∀ i, 1 ≤ i → i < 92 → sm i = lN (q_F (i - 1))) ∧ en = nI n ∧ mn = nI n ∧ pl = nI a ∧ at_ = nI a ∧ ld = nI d ∧ md_l = nI d
def q_I : jSt9 → Prop := fun (w, en, pl, _, li, ld, fb, _, rw, mn, at_, ml, md_l, _, _, sm, _, _, _) => q_J w en pl li ld fb rw mn at_ ml md_l sm
theorem q_try1 {α β : Type} {a : α} {F : α → Option (Option β)} : jtry (some (some a)) F = F a := rfl
theorem q_try0 {α β : Type} {F : α → Option (Option β)} : jtry (some none) F = some none := rfl
def q_oL (ou : Nat → Int64) (L : Option (Int32 × (Nat → Int64))) (M : Option (Int64 × Int32)) : Prop := (∃ x, L = some (nI 1, ou) ∧ M = some (x, nI 1)) ∨ (∃ r, L = some (nI 0, vp_updL ou 0 r) ∧ M = some (r, nI 0))
theorem q_pA {ou : Nat → Int64} {L : Option (Int32 × (Nat → Int64))} {M : Option (Int64 × Int32)} (h : q_oL ou L M) (K : Int32 → (Nat → Int64) → jSt9) : ∃ v4 v2, (L.bind fun (v1, v2) => (M.bind fun (v3, v4) => ((j_X2_thrown v4).bind fun v5 => (if v5 = v1 then (if v1 = (0 : Int32) then (if (v2 (0 : Int32).toNatClampNeg) = v3 then (some (K v4 v2)) else (none)) else (some (K v4 v2))) else (none))))) = some (K v4 v2) := by
  unfold j_X2_thrown
  rcases h with ⟨x, e1, e2⟩ | ⟨r, e1, e2⟩
  · rw [e1, e2]
    refine ⟨nI 1, ou, ?_⟩
    show (if nI 1 = nI 1 then (if nI 1 = (0 : Int32) then (if ou (0 : Int32).toNatClampNeg = x then some (K (nI 1) ou) else none) else some (K (nI 1) ou)) else none) = _
    rw [if_pos rfl, if_neg (by decide)]
  · rw [e1, e2]
    refine ⟨nI 0, vp_updL ou 0 r, ?_⟩
    show (if nI 0 = nI 0 then (if nI 0 = (0 : Int32) then (if vp_updL ou 0 r (0 : Int32).toNatClampNeg = r then some (K (nI 0) (vp_updL ou 0 r)) else none) else some (K (nI 0) (vp_updL ou 0 r))) else none) = _
    rw [if_pos rfl, if_pos (show nI 0 = (0 : Int32) from rfl), if_pos (show vp_updL ou 0 r (0 : Int32).toNatClampNeg = r from pk_uLs)]
theorem q_st {α : Type} {x : α} : jix (0 : Int32) 1 (some x) = some x := q_jix (j := 0) (n := 1) (by omega) (by omega)
/-! the methods that leave the state alone -/
theorem q_mLength {fb sm : Nat → Int64} (hfb : ∀ i, i < 89 → fb i = lN (q_F i)) (hsm : ∀ i, 1 ≤ i → i < 92 → sm i = lN (q_F (i - 1))) (ou : Nat → Int64) (th a1 a2 : Int32) (x : Int64) : q_oL ou (j_L_length fb ou a1 a2 x) (j_X2_length th sm a1 a2 x) := by
  unfold j_L_length j_X1_length j_X2_length
  rcases q_code a1 a2 with ⟨k, p, rfl, rfl, ho, hI, hK⟩ | ⟨hI, hK⟩
  · rw [q_reqC hI, hK, q_try1, Option.bind_some, if_pos (show nI 0 = (0 : Int32) from rfl)]
    rcases q_numb x with ⟨n, rfl, hn, r1, r2⟩ | ⟨r1, r2⟩
    · rw [r1, r2, q_try1, Option.bind_some, if_pos (show nI 0 = (0 : Int32) from rfl), q_lenC hfb ho hn, q_lenM hsm ho hn]
      exact Or.inr ⟨_, q_st, rfl⟩
    · rw [r1, r2, q_try0, Option.bind_some, Option.bind_some, if_neg (show ¬ nI 1 = (0 : Int32) by decide)]
      exact Or.inl ⟨_, rfl, rfl⟩
  · rw [q_reqN hI, hK, q_try0, Option.bind_some, Option.bind_some, if_neg (show ¬ nI 1 = (0 : Int32) by decide)]
    exact Or.inl ⟨_, rfl, rfl⟩
theorem q_mGet {li ml : Nat → Int64} {g : Nat → Nat} {d : Nat} (hd : d ≤ 100) (hli : q_li li ml g d) (ou : Nat → Int64) (th a1 : Int32) : q_oL ou (j_L_get li (nI d) ou a1) (j_X2_get th ml (nI d) a1) := by
  unfold j_L_get j_X1_get j_X2_get
  by_cases c : a1 < 0
  · rw [if_pos c, if_pos c]
    exact Or.inl ⟨_, rfl, rfl⟩
  · obtain ⟨i, hi, rfl⟩ := q_posI c
    rw [if_neg c, if_neg c]
    by_cases c2 : i < d
    · obtain ⟨hn, e1, e2⟩ := hli i c2
      have c2' := (q_lt (b := d) hi (by omega)).mpr c2
      rw [if_pos c2', if_pos c2', q_jix (by omega) (by omega), q_jix (by omega) (by omega), q_clamp (by omega), e1, e2]
      exact Or.inr ⟨_, q_st, rfl⟩
    · have c2' : ¬ nI i < nI d := fun h9 => c2 ((q_lt hi (by omega)).mp h9)
      rw [if_neg c2', if_neg c2']
      exact Or.inl ⟨_, rfl, rfl⟩
theorem q_mTotal {fb sm : Nat → Int64} (hfb : ∀ i, i < 89 → fb i = lN (q_F i)) (hsm : ∀ i, 1 ≤ i → i < 92 → sm i = lN (q_F (i - 1))) {li ml : Nat → Int64} {g : Nat → Nat} {d : Nat} (hd : d ≤ 100) (hli : q_li li ml g d) (ou : Nat → Int64) (th a1 a2 : Int32) : q_oL ou (j_L_total li (nI d) fb ou a1 a2) (j_X2_total th ml (nI d) sm a1 a2) := by
  unfold j_L_total j_X1_total j_X2_total
  rcases q_code a1 a2 with ⟨k, p, rfl, rfl, ho, hI, hK⟩ | ⟨hI, hK⟩
  · rw [q_reqC hI, hK, q_try1, Option.bind_some, if_pos (show nI 0 = (0 : Int32) from rfl), q_listLength hfb ho hd hli, q_totalOf hsm ho hd hli]
    exact Or.inr ⟨_, q_st, rfl⟩
  · rw [q_reqN hI, hK, q_try0, Option.bind_some, Option.bind_some, if_neg (show ¬ nI 1 = (0 : Int32) by decide)]
    exact Or.inl ⟨_, rfl, rfl⟩
theorem q_rl1 {a : Int32} {m : Nat} (h1 : ¬ a < 0) (h2 : a ≤ nI m) : j_X1_requireLength a (nI m) = some (some ()) := by
  unfold j_X1_requireLength
  rw [if_neg h1, if_pos h2]
theorem q_rl0 {a : Int32} {m : Nat} (h : a < 0 ∨ (¬ a < 0 ∧ ¬ a ≤ nI m)) : j_X1_requireLength a (nI m) = some none := by
  unfold j_X1_requireLength
  rcases h with h | ⟨h1, h2⟩
  · rw [if_pos h]
  · rw [if_neg h1, if_neg h2]
theorem q_mCount {fb sm : Nat → Int64} (hfb : ∀ i, i < 89 → fb i = lN (q_F i)) (hsm : ∀ i, 1 ≤ i → i < 92 → sm i = lN (q_F (i - 1))) (ou : Nat → Int64) (th a1 a2 a3 : Int32) : q_oL ou (j_L_count fb ou a1 a2 a3) (j_X2_count th sm a1 a2 a3) := by
  unfold j_L_count j_X1_count j_X2_count
  rcases q_code a1 a2 with ⟨k, p, rfl, rfl, ho, hI, hK⟩ | ⟨hI, hK⟩
  · rw [q_reqC hI, hK, q_try1, Option.bind_some, if_pos (show nI 0 = (0 : Int32) from rfl), q_i200]
    rcases q_leng a3 200 (by omega) with ⟨L, rfl, hL, h1, h2⟩ | h
    · rw [q_rl1 h1 h2, q_try1, if_neg h1, if_pos h2, q_i1, nI_add, q_lrT hfb ho (by omega), q_lrT hfb ho (by omega), q_cntM hsm ho hL, Option.bind_some, Option.bind_some, q_lsub (q_T_mono ho (by omega))]
      exact Or.inr ⟨_, q_st, rfl⟩
    · rw [q_rl0 h, q_try0]
      rcases h with h | ⟨h1, h2⟩
      · rw [if_pos h]
        exact Or.inl ⟨_, rfl, rfl⟩
      · rw [if_neg h1, if_neg h2]
        exact Or.inl ⟨_, rfl, rfl⟩
  · rw [q_reqN hI, hK, q_try0, Option.bind_some, Option.bind_some, if_neg (show ¬ nI 1 = (0 : Int32) by decide)]
    exact Or.inl ⟨_, rfl, rfl⟩
theorem q_mFirst {fb sm : Nat → Int64} (hfb : ∀ i, i < 89 → fb i = lN (q_F i)) (hsm : ∀ i, 1 ≤ i → i < 92 → sm i = lN (q_F (i - 1))) (ou : Nat → Int64) (th a1 a2 a3 : Int32) : q_oL ou (j_L_first fb ou a1 a2 a3) (j_X2_first th sm a1 a2 a3) := by
  unfold j_L_first j_X1_first j_X2_first
  rcases q_code a1 a2 with ⟨k, p, rfl, rfl, ho, hI, hK⟩ | ⟨hI, hK⟩
  · rw [q_reqC hI, hK, q_try1, Option.bind_some, if_pos (show nI 0 = (0 : Int32) from rfl), q_i200]
    rcases q_leng a3 200 (by omega) with ⟨L, rfl, hL, h1, h2⟩ | h
    · have hb := q_T_bd (L := L) ho (by omega)
      have hb' := q_T_bd (L := L + 1) ho (by omega)
      rw [q_rl1 h1 h2, q_try1, if_neg h1, if_pos h2, q_lrT hfb ho (by omega), q_lstM hsm ho hL, Option.bind_some, Option.bind_some, q_lM, q_l0]
      by_cases c : q_T k p L < q_T k p (L + 1)
      · have hn : q_num (q_T k p L) := ⟨hb.1, by omega⟩
        have i1 := q_T_iff (L := L) ho (by omega) hn
        have i2 := q_T_iff (L := L + 1) ho (by omega) hn
        have el : q_len k p (q_T k p L) = L := by omega
        rw [if_pos c, if_neg (fun h9 => by have := (q_llt (by omega) (by omega)).mp h9; omega), q_lenC hfb ho hn, Option.bind_some, el, q_i2l (by omega), if_pos rfl, if_neg (fun h9 => by have := (q_leq (by omega) (by omega)).mp h9; omega)]
        exact Or.inr ⟨_, q_st, rfl⟩
      · rw [if_neg c, if_pos (rfl : lN 0 = lN 0)]
        by_cases c2 : 4611686018427387904 < q_T k p L
        · rw [if_pos ((q_llt (by omega) (by omega)).mpr c2)]
          exact Or.inr ⟨_, q_st, rfl⟩
        · have hn : q_num (q_T k p L) := ⟨hb.1, by omega⟩
          have i2 := q_T_iff (L := L + 1) ho (by omega) hn
          have i1 := q_T_iff (L := L) ho (by omega) hn
          have hlen := q_len_le ho hn
          rw [if_neg (fun h9 => c2 ((q_llt (by omega) (by omega)).mp h9)), q_lenC hfb ho hn, Option.bind_some, q_i2l (by omega), if_neg (fun h9 => by have := (q_leq (by omega) (by omega)).mp h9; omega)]
          exact Or.inr ⟨_, q_st, rfl⟩
    · rw [q_rl0 h, q_try0]
      rcases h with h | ⟨h1, h2⟩
      · rw [if_pos h]
        exact Or.inl ⟨_, rfl, rfl⟩
      · rw [if_neg h1, if_neg h2]
        exact Or.inl ⟨_, rfl, rfl⟩
  · rw [q_reqN hI, hK, q_try0, Option.bind_some, Option.bind_some, if_neg (show ¬ nI 1 = (0 : Int32) by decide)]
    exact Or.inl ⟨_, rfl, rfl⟩
theorem q_begN {sm : Nat → Int64} {k p x : Int32} {z : Nat} : ∃ v, jL_X2_begun_33 (1 : Int32) sm k p x (z + 1) (0 : Int64) (1 : Int32) = some (v, nI 1) := by
  refine ⟨0, ?_⟩
  show (if x < (1 : Int32) then (some ((0 : Int64), (1 : Int32))) else (if (1 : Int32) = (0 : Int32) then _ else (some ((0 : Int64), (1 : Int32))))) = _
  rw [if_neg (show ¬ (1 : Int32) = (0 : Int32) by decide)]
  split <;> rfl
theorem q_begN2 {sm : Nat → Int64} {k p x : Int32} : ∃ v, jL_X2_begun_33 (1 : Int32) sm k p x jF (0 : Int64) (1 : Int32) = some (v, nI 1) := by
  have := q_begN (sm := sm) (k := k) (p := p) (x := x) (z := 999999)
  rw [show 999999 + 1 = jF from rfl] at this
  exact this
theorem q_mBegun {fb sm : Nat → Int64} (hfb : ∀ i, i < 89 → fb i = lN (q_F i)) (hsm : ∀ i, 1 ≤ i → i < 92 → sm i = lN (q_F (i - 1))) (ou : Nat → Int64) (th a1 a2 a3 : Int32) : q_oL ou (j_L_begun fb ou a1 a2 a3) (j_X2_begun th sm a1 a2 a3) := by
  unfold j_L_begun j_X1_begun j_X2_begun
  rcases q_code a1 a2 with ⟨k, p, rfl, rfl, ho, hI, hK⟩ | ⟨hI, hK⟩
  · rw [q_reqC hI, hK, q_try1, Option.bind_some, if_pos (show nI 0 = (0 : Int32) from rfl), q_i62]
    rcases q_leng a3 62 (by omega) with ⟨L, rfl, hL, h1, h2⟩ | h
    · have e1 := q_begC hfb ho hL L jF 0 (by omega) (by unfold jF; omega)
      have e2 := q_begM hsm ho hL L jF 0 (by omega) (by unfold jF; omega)
      rw [show q_R k p 0 = 0 from rfl, Nat.zero_add, q_T1 ho] at e1
      rw [show q_R k p 0 = 0 from rfl, Nat.zero_add, Nat.zero_mul] at e2
      rw [q_rl1 h1 h2, q_try1, if_neg h1, if_pos h2, q_l0, q_l1, q_i1, q_i0, e1, e2]
      exact Or.inr ⟨_, q_st, rfl⟩
    · rw [q_rl0 h, q_try0]
      obtain ⟨v, e⟩ := q_begN2 (sm := sm) (k := nI k) (p := nI p) (x := a3)
      rcases h with h | ⟨h1, h2⟩
      · rw [if_pos h, e]
        exact Or.inl ⟨_, rfl, rfl⟩
      · rw [if_neg h1, if_neg h2, e]
        exact Or.inl ⟨_, rfl, rfl⟩
  · obtain ⟨v, e⟩ := q_begN2 (sm := sm) (k := a1) (p := a2) (x := a3)
    rw [q_reqN hI, hK, q_try0, Option.bind_some, Option.bind_some, if_neg (show ¬ nI 1 = (0 : Int32) by decide), e]
    exact Or.inl ⟨_, rfl, rfl⟩
theorem q_mFold (ou : Nat → Int64) (th : Int32) (x : Int64) : q_oL ou (j_L_fold ou x) (j_X2_fold th x) := by
  unfold j_L_fold j_X1_fold j_X2_fold
  by_cases c1 : (2305843009213693952 : Int64) < x
  · rw [if_pos c1, if_pos c1]
    exact Or.inl ⟨_, rfl, rfl⟩
  · rw [if_neg c1, if_neg c1]
    by_cases c2 : (-2305843009213693952 : Int64) < x
    · rw [if_pos c2, if_pos c2]
      by_cases c3 : x ≤ 0
      · rw [if_pos c3, if_pos c3]
        exact Or.inr ⟨_, q_st, rfl⟩
      · rw [if_neg c3, if_neg c3]
        exact Or.inr ⟨_, q_st, rfl⟩
    · rw [if_neg c2, if_neg c2]
      exact Or.inl ⟨_, rfl, rfl⟩
theorem q_mUnfold (ou : Nat → Int64) (th : Int32) (x : Int64) : q_oL ou (j_L_unfold ou x) (j_X2_unfold th x) := by
  unfold j_L_unfold j_X1_unfold j_X2_unfold
  rcases q_numb x with ⟨n, rfl, hn, r1, r2⟩ | ⟨r1, r2⟩
  · rw [r1, r2, q_try1, Option.bind_some, if_pos (show nI 0 = (0 : Int32) from rfl)]
    by_cases c : (lN n - lN n / (2 : Int64) * (2 : Int64)) = (0 : Int64)
    · rw [if_pos c, if_pos c]
      exact Or.inr ⟨_, q_st, rfl⟩
    · rw [if_neg c, if_neg c]
      exact Or.inr ⟨_, q_st, rfl⟩
  · rw [r1, r2, q_try0, Option.bind_some, Option.bind_some, if_neg (show ¬ nI 1 = (0 : Int32) by decide)]
    exact Or.inl ⟨_, rfl, rfl⟩
