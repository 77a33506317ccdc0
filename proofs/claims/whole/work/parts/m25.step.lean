/-! The last cases; a step of the law keeps the invariant. -/
theorem q_putN {ml : Nat → Int64} {md_l : Int32} {sm : Nat → Int64} {k p : Int32} {z : Nat} {rw wd : Nat → Int32} {mn md : Int32} : jL_X2_putAll_19 (1 : Int32) ml md_l sm k p (z + 1) (0 : Int32) rw mn wd md = some (nI 0, nI 1, rw, mn, wd, md) := by
  show (if (1 : Int32) = (0 : Int32) then _ else some ((0 : Int32), (1 : Int32), rw, mn, wd, md)) = _
  rw [if_neg (show ¬ (1 : Int32) = (0 : Int32) by decide)]
  rfl
theorem q_putN2 {ml : Nat → Int64} {md_l : Int32} {sm : Nat → Int64} {k p : Int32} {rw wd : Nat → Int32} {mn md : Int32} : jL_X2_putAll_19 (1 : Int32) ml md_l sm k p jF (0 : Int32) rw mn wd md = some (nI 0, nI 1, rw, mn, wd, md) := by
  rw [show jF = 999999 + 1 from rfl]
  exact q_putN
section
variable {w : Nat → Int64} {en pl cu : Int32} {li : Nat → Int64} {ld : Int32} {fb : Nat → Int64} {th : Int32} {rw : Nat → Int32} {mn at_ : Int32} {ml : Nat → Int64} {md_l : Int32} {wd : Nat → Int32} {md : Int32} {sm : Nat → Int64} {fr no : Int32} {ou : Nat → Int64} {v_1 v_2 v_3 v_4 : Int32}
theorem q_case2 (hJ : q_J w en pl li ld fb rw mn at_ ml md_l sm) : ∃ σ', jC_2 w en pl cu li ld fb th rw mn at_ ml md_l wd md sm fr no ou v_1 v_2 v_3 v_4 = some σ' ∧ q_I σ' := by
  obtain ⟨f, n, a, d, g, hw, hm, ha, hd, hli, hfb, hsm, rfl, rfl, rfl, rfl, rfl, rfl⟩ := id hJ
  have hn4 := hw.2.2.1
  unfold jC_2 j_L_take j_X1_take j_X2_take j_X2_thrown
  rcases q_code v_1 v_2 with ⟨k, p, rfl, rfl, ho, hI, hK⟩ | ⟨hI, hK⟩
  · rw [q_reqC hI, hK, q_try1]
    rcases q_next1 (cu := cu) (fr := fr) (no := no) hfb hsm hw hm ha ho with ⟨v, e, hv, he, ⟨cu1, a1⟩, fr1, no1, a2⟩ | ⟨⟨cu1, a1⟩, fr1, no1, a2⟩
    · rw [a1, a2]
      exact ⟨_, q_cl0 (ou := ou) (y := lN v) (w, nI n, nI e, cu1, li, nI d, fb, nI 0, rw, nI n, nI e, ml, nI d, wd, md, sm, fr1, no1, vp_updL ou 0 (lN v)), f, n, e, d, g, hw, hm, he, hd, hli, hfb, hsm, rfl, rfl, rfl, rfl, rfl, rfl⟩
    · rw [a1, a2]
      exact ⟨_, q_cl0 (ou := ou) (y := (-1 : Int64)) (w, nI n, nI a, cu1, li, nI d, fb, nI 0, rw, nI n, nI a, ml, nI d, wd, md, sm, fr1, no1, vp_updL ou 0 (-1 : Int64)), hJ⟩
  · rw [q_reqN hI, hK, q_try0]
    exact ⟨_, q_cl1 (X := none) (w, nI n, nI a, cu, li, nI d, fb, nI 1, rw, nI n, nI a, ml, nI d, wd, md, sm, fr, no, ou), hJ⟩
theorem q_case3 (hJ : q_J w en pl li ld fb rw mn at_ ml md_l sm) : ∃ σ', jC_3 w en pl cu li ld fb th rw mn at_ ml md_l wd md sm fr no ou v_1 v_2 v_3 v_4 = some σ' ∧ q_I σ' := by
  obtain ⟨f, n, a, d, g, hw, hm, ha, hd, hli, hfb, hsm, rfl, rfl, rfl, rfl, rfl, rfl⟩ := id hJ
  have hn4 := hw.2.2.1
  unfold jC_3 j_L_push j_X1_push j_X2_push j_X2_thrown j_X0_room
  generalize ((v_1.toInt64) <<< ((32 : Int32).toInt64 &&& 63)) ||| ((v_2.toInt64) &&& (4294967295 : Int64)) = x
  by_cases c : v_3 < 0
  · have c1 : v_3 < (1 : Int32) := q_neglt c (m := 1) (by omega)
    rw [if_pos c1, if_pos c1]
    exact ⟨_, q_cl1 (X := none) (w, nI n, nI a, cu, li, nI d, fb, nI 1, rw, nI n, nI a, ml, nI d, wd, md, sm, fr, no, ou), hJ⟩
  · obtain ⟨N, hN, rfl⟩ := q_posI c
    rw [q_i1, q_i64]
    by_cases c1 : N < 1
    · have c1' := (q_lt (b := 1) hN (by omega)).mpr c1
      rw [if_pos c1', if_pos c1']
      exact ⟨_, q_cl1 (X := none) (w, nI n, nI a, cu, li, nI d, fb, nI 1, rw, nI n, nI a, ml, nI d, wd, md, sm, fr, no, ou), hJ⟩
    · have c1' : ¬ nI N < nI 1 := fun h9 => c1 ((q_lt hN (by omega)).mp h9)
      rw [if_neg c1', if_neg c1']
      by_cases c2 : N ≤ 64
      · have c2' := (q_le (b := 64) hN (by omega)).mpr c2
        rw [if_pos c2', if_pos c2', Option.bind_some, q_i4096, q_sub hn4, nI_add]
        by_cases c3 : n + N ≤ 4096
        · obtain ⟨X, hX, rfl⟩ := wb_of x
          have hXd : X / 2 ^ (64 - N) ≤ X := Nat.div_le_self _ _
          obtain ⟨w1, a1, b1⟩ := q_appendBits (v := X / 2 ^ (64 - N)) (width := N) hw (by omega) c2 c3
          obtain ⟨rw1, a2, b2⟩ := q_pushL (f := f) hX c2 c3 N jF 0 rw (by omega) (by unfold jF; omega) (fun i hi => by
            unfold q_ap
            rw [if_pos (by omega)]
            exact hm i (by omega))
          rw [Nat.add_zero] at a2
          rw [if_pos ((q_le (by omega) (by omega)).mpr (show N ≤ 4096 - n by omega)), if_pos ((q_le (by omega) (by omega)).mpr c3), q_sub c2, q_ushl hX (by omega), a1, q_i0, a2]
          exact ⟨_, q_cl0 (ou := ou) (y := (nI (n + N)).toInt64) (w1, nI (n + N), nI a, cu, li, nI d, fb, nI 0, rw1, nI (n + N), nI a, ml, nI d, wd, md, sm, fr, no, vp_updL ou 0 (nI (n + N)).toInt64), _, n + N, a, d, g, b1, b2, by omega, hd, hli, hfb, hsm, rfl, rfl, rfl, rfl, rfl, rfl⟩
        · rw [if_neg (fun h9 => by have := (q_le (by omega) (by omega)).mp h9; omega), if_neg (fun h9 => c3 ((q_le (by omega) (by omega)).mp h9))]
          exact ⟨_, q_cl0 (ou := ou) (y := (-1 : Int32).toInt64) (w, nI n, nI a, cu, li, nI d, fb, nI 0, rw, nI n, nI a, ml, nI d, wd, md, sm, fr, no, vp_updL ou 0 (-1 : Int32).toInt64), hJ⟩
      · have c2' : ¬ nI N ≤ nI 64 := fun h9 => c2 ((q_le hN (by omega)).mp h9)
        rw [if_neg c2', if_neg c2']
        exact ⟨_, q_cl1 (X := none) (w, nI n, nI a, cu, li, nI d, fb, nI 1, rw, nI n, nI a, ml, nI d, wd, md, sm, fr, no, ou), hJ⟩
theorem q_case9 (hJ : q_J w en pl li ld fb rw mn at_ ml md_l sm) : ∃ σ', jC_9 w en pl cu li ld fb th rw mn at_ ml md_l wd md sm fr no ou v_1 v_2 v_3 v_4 = some σ' ∧ q_I σ' := by
  obtain ⟨f, n, a, d, g, hw, hm, ha, hd, hli, hfb, hsm, rfl, rfl, rfl, rfl, rfl, rfl⟩ := id hJ
  have hn4 := hw.2.2.1
  unfold jC_9 j_L_add j_X1_add j_X2_add j_X2_thrown
  generalize ((v_1.toInt64) <<< ((32 : Int32).toInt64 &&& 63)) ||| ((v_2.toInt64) &&& (4294967295 : Int64)) = x
  rcases q_numb x with ⟨N, rfl, hN, r1, r2⟩ | ⟨r1, r2⟩
  · rw [r1, r2, q_try1, q_i100]
    by_cases c : d < 100
    · rw [if_pos ((q_lt (by omega) (by omega)).mpr c), Option.bind_some, if_pos (show nI 0 = (0 : Int32) from rfl), if_neg (show ¬ nI d = nI 100 from fun h9 => by have := (q_eq (by omega) (by omega)).mp h9; omega), q_jix c (by omega), q_jix c (by omega), q_clamp (by omega), q_i1, nI_add]
      exact ⟨_, q_cl0 (ou := ou) (y := (nI (d + 1)).toInt64) (w, nI n, nI a, cu, vp_updL li d (lN N), nI (d + 1), fb, nI 0, rw, nI n, nI a, vp_updL ml d (lN N), nI (d + 1), wd, md, sm, fr, no, vp_updL ou 0 (nI (d + 1)).toInt64), f, n, a, d + 1, _, hw, hm, ha, by omega, q_li_up hli hN, hfb, hsm, rfl, rfl, rfl, rfl, rfl, rfl⟩
    · rw [if_neg (fun h9 => c ((q_lt (by omega) (by omega)).mp h9)), Option.bind_some, Option.bind_some, if_pos (show nI 0 = (0 : Int32) from rfl), if_pos (show nI d = nI 100 by rw [show d = 100 by omega])]
      exact ⟨_, q_cl0 (ou := ou) (y := (-1 : Int32).toInt64) (w, nI n, nI a, cu, li, nI d, fb, nI 0, rw, nI n, nI a, ml, nI d, wd, md, sm, fr, no, vp_updL ou 0 (-1 : Int32).toInt64), hJ⟩
  · rw [r1, r2, q_try0]
    exact ⟨_, q_cl1 (X := none) (w, nI n, nI a, cu, li, nI d, fb, nI 1, rw, nI n, nI a, ml, nI d, wd, md, sm, fr, no, ou), hJ⟩
theorem q_case14 (hJ : q_J w en pl li ld fb rw mn at_ ml md_l sm) : ∃ σ', jC_14 w en pl cu li ld fb th rw mn at_ ml md_l wd md sm fr no ou v_1 v_2 v_3 v_4 = some σ' ∧ q_I σ' := by
  obtain ⟨f, n, a, d, g, hw, hm, ha, hd, hli, hfb, hsm, rfl, rfl, rfl, rfl, rfl, rfl⟩ := id hJ
  have hn4 := hw.2.2.1
  unfold jC_14 j_L_putAll j_X1_putAll j_X2_putAll j_X2_thrown
  rcases q_code v_1 v_2 with ⟨k, p, rfl, rfl, ho, hI, hK⟩ | ⟨hI, hK⟩
  · obtain ⟨r, w1, rw1, wd1, md1, f1, n1, a1, a2, b1, b2, b3⟩ := q_putAllL hfb hsm ho hd hli d jF jF 0 n w rw wd md f (by omega) (by unfold jF; omega) (by unfold jF; omega) hw hm
    rw [q_reqC hI, hK, q_try1, Option.bind_some, if_pos (show nI 0 = (0 : Int32) from rfl), q_i0, a1, a2]
    exact ⟨_, q_cl0 (ou := ou) (y := (nI r).toInt64) (w1, nI n1, nI a, cu, li, nI d, fb, nI 0, rw1, nI n1, nI a, ml, nI d, wd1, md1, sm, fr, no, vp_updL ou 0 (nI r).toInt64), f1, n1, a, d, g, b1, b2, by omega, hd, hli, hfb, hsm, rfl, rfl, rfl, rfl, rfl, rfl⟩
  · rw [q_reqN hI, hK, q_try0, Option.bind_some, Option.bind_some, Option.bind_some, if_neg (show ¬ nI 1 = (0 : Int32) by decide), q_putN2]
    exact ⟨_, q_cl1 (X := none) (w, nI n, nI a, cu, li, nI d, fb, nI 1, rw, nI n, nI a, ml, nI d, wd, md, sm, fr, no, ou), hJ⟩
theorem q_case15 (hJ : q_J w en pl li ld fb rw mn at_ ml md_l sm) : ∃ σ', jC_15 w en pl cu li ld fb th rw mn at_ ml md_l wd md sm fr no ou v_1 v_2 v_3 v_4 = some σ' ∧ q_I σ' := by
  obtain ⟨f, n, a, d, g, hw, hm, ha, hd, hli, hfb, hsm, rfl, rfl, rfl, rfl, rfl, rfl⟩ := id hJ
  have hn4 := hw.2.2.1
  unfold jC_15 j_L_takeAll j_X1_takeAll j_X2_takeAll j_X2_thrown
  rcases q_code v_1 v_2 with ⟨k, p, rfl, rfl, ho, hI, hK⟩ | ⟨hI, hK⟩
  · obtain ⟨d1, p1, cu1, fr1, no1, li1, ml1, g1, a1, a2, b1, b2, b3⟩ := q_takeAllL hfb hsm hw hm ho 100 jF jF 0 a cu fr no li ml g (by omega) (by unfold jF; omega) (by unfold jF; omega) ha (fun i hi => by omega)
    rw [q_reqC hI, hK, q_try1, Option.bind_some, if_pos (show nI 0 = (0 : Int32) from rfl), q_i0, q_i1, a1, a2]
    exact ⟨_, q_cl0 (ou := ou) (y := (nI d1).toInt64) (w, nI n, nI p1, cu1, li1, nI d1, fb, nI 0, rw, nI n, nI p1, ml1, nI d1, wd, md, sm, fr1, no1, vp_updL ou 0 (nI d1).toInt64), f, n, p1, d1, g1, hw, hm, b1, b2, b3, hfb, hsm, rfl, rfl, rfl, rfl, rfl, rfl⟩
  · rw [q_reqN hI, hK, q_try0]
    exact ⟨_, q_cl1 (X := none) (w, nI n, nI a, cu, li, nI d, fb, nI 1, rw, nI n, nI a, ml, nI d, wd, md, sm, fr, no, ou), hJ⟩
end
theorem q_step (v_0 v_1 v_2 v_3 v_4 : Int32) (σ : jSt9) (h : q_I σ) : ∃ σ', jStep v_0 v_1 v_2 v_3 v_4 σ = some σ' ∧ q_I σ' := by
  obtain ⟨w, en, pl, cu, li, ld, fb, th, rw, mn, at_, ml, md_l, wd, md, sm, fr, no, ou⟩ := σ
  have hJ : q_J w en pl li ld fb rw mn at_ ml md_l sm := h
  unfold jStep
  by_cases c0 : v_0 &&& 31 = (0 : Int32)
  · rw [if_pos c0]
    exact q_case0 hJ
  rw [if_neg c0]
  by_cases c1 : v_0 &&& 31 = (1 : Int32)
  · rw [if_pos c1]
    exact q_case1 hJ
  rw [if_neg c1]
  by_cases c2 : v_0 &&& 31 = (2 : Int32)
  · rw [if_pos c2]
    exact q_case2 hJ
  rw [if_neg c2]
  by_cases c3 : v_0 &&& 31 = (3 : Int32)
  · rw [if_pos c3]
    exact q_case3 hJ
  rw [if_neg c3]
  by_cases c4 : v_0 &&& 31 = (4 : Int32)
  · rw [if_pos c4]
    exact q_case4 hJ
  rw [if_neg c4]
  by_cases c5 : v_0 &&& 31 = (5 : Int32)
  · rw [if_pos c5]
    exact q_case5 hJ
  rw [if_neg c5]
  by_cases c6 : v_0 &&& 31 = (6 : Int32)
  · rw [if_pos c6]
    exact q_case6 hJ
  rw [if_neg c6]
  by_cases c7 : v_0 &&& 31 = (7 : Int32)
  · rw [if_pos c7]
    exact q_case7 hJ
  rw [if_neg c7]
  by_cases c8 : v_0 &&& 31 = (8 : Int32)
  · rw [if_pos c8]
    exact q_case8 hJ
  rw [if_neg c8]
  by_cases c9 : v_0 &&& 31 = (9 : Int32)
  · rw [if_pos c9]
    exact q_case9 hJ
  rw [if_neg c9]
  by_cases c10 : v_0 &&& 31 = (10 : Int32)
  · rw [if_pos c10]
    exact q_case10 hJ
  rw [if_neg c10]
  by_cases c11 : v_0 &&& 31 = (11 : Int32)
  · rw [if_pos c11]
    exact q_case11 hJ
  rw [if_neg c11]
  by_cases c12 : v_0 &&& 31 = (12 : Int32)
  · rw [if_pos c12]
    exact q_case12 hJ
  rw [if_neg c12]
  by_cases c13 : v_0 &&& 31 = (13 : Int32)
  · rw [if_pos c13]
    exact q_case13 hJ
  rw [if_neg c13]
  by_cases c14 : v_0 &&& 31 = (14 : Int32)
  · rw [if_pos c14]
    exact q_case14 hJ
  rw [if_neg c14]
  by_cases c15 : v_0 &&& 31 = (15 : Int32)
  · rw [if_pos c15]
    exact q_case15 hJ
  rw [if_neg c15]
  by_cases c16 : v_0 &&& 31 = (16 : Int32)
  · rw [if_pos c16]
    exact q_case16 hJ
  rw [if_neg c16]
  by_cases c17 : v_0 &&& 31 = (17 : Int32)
  · rw [if_pos c17]
    exact q_case17 hJ
  rw [if_neg c17]
  by_cases c18 : v_0 &&& 31 = (18 : Int32)
  · rw [if_pos c18]
    exact q_case18 hJ
  rw [if_neg c18]
  by_cases c19 : v_0 &&& 31 = (19 : Int32)
  · rw [if_pos c19]
    exact q_case19 hJ
  rw [if_neg c19]
  by_cases c20 : v_0 &&& 31 = (20 : Int32)
  · rw [if_pos c20]
    exact q_case20 hJ
  rw [if_neg c20]
  exact ⟨_, rfl, h⟩
theorem q_I0 {fb sm : Nat → Int64} (hfb : ∀ i, i < 89 → fb i = lN (q_F i)) (hsm : ∀ i, 1 ≤ i → i < 92 → sm i = lN (q_F (i - 1))) : q_I ((fun _ => 0 : Nat → Int64), 0, 0, 0, (fun _ => 0 : Nat → Int64), 0, fb, 0, (fun _ => 0 : Nat → Int32), 0, 0, (fun _ => 0 : Nat → Int64), 0, (fun _ => 0 : Nat → Int32), 0, sm, 0, 0, (fun _ => 0 : Nat → Int64)) :=
  ⟨fun _ => 0, 0, 0, 0, fun _ => 0, q_zero (fun _ _ => rfl), fun i hi => by omega, by omega, by omega, fun i hi => by omega, hfb, hsm, rfl, rfl, rfl, rfl, rfl, rfl⟩
theorem whole_start {p : Program} {e : Env} {s : State} {m : MethodId} {below : List Frame} {meth : Method} {c : Code} (l : Launch) (hlt : l.stackTraces = false) {b L : Nat} {xs : Nat → Int32} (hL : L ≤ 2560) (C0 : lw_At p s m meth c b L xs) : W p l e room_1 s m #[Value.ref b] below meth c s.heap [] 0 0 (lw_Z below #[Value.ref b] s) (entryFrame m ([Value.ref b] : List Value).toArray 8) := by
  obtain ⟨fb, h1, h2⟩ := q_init1
  obtain ⟨sm, h3, h4⟩ := q_init2
  exact law_start l hlt hL C0 q_I q_step fb sm h1 h3 (q_I0 h2 h4)
