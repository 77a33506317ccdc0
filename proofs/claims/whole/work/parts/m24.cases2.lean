/-! The methods that change the state; all cases of the law. -/
theorem q_cl0 {ou : Nat → Int64} {y : Int64} (σ : jSt9) : (if nI 0 = nI 0 then (if nI 0 = (0 : Int32) then (if vp_updL ou 0 y (0 : Int32).toNatClampNeg = y then some σ else none) else some σ) else none) = some σ := by
  rw [if_pos rfl, if_pos (show nI 0 = (0 : Int32) from rfl), if_pos (show vp_updL ou 0 y (0 : Int32).toNatClampNeg = y from pk_uLs)]
theorem q_cl1 {X : Option jSt9} (σ : jSt9) : (if nI 1 = nI 1 then (if nI 1 = (0 : Int32) then X else some σ) else none) = some σ := by
  rw [if_pos rfl, if_neg (by decide)]
theorem q_bestStep {sm : Nat → Int64} (hsm : ∀ i, 1 ≤ i → i < 92 → sm i = lN (q_F (i - 1))) {li ml : Nat → Int64} {g : Nat → Nat} {k d p lo z : Nat} (hd : d ≤ 100) (hli : q_li li ml g d) (hol : q_ok k lo) (hlp : lo ≤ p) (c6 : p ≤ 500) : jL_X2_best_53 (nI 0) ml (nI d) sm (nI k) (nI p) (z + 1) (nI lo) (nI lo) = jL_X2_best_53 (nI 0) ml (nI d) sm (nI k) (nI p) z (nI lo) (nI (lo + 1)) := by
  show (if nI p < nI lo then some (nI lo, nI 0) else ((j_X2_totalOf ml (nI d) sm (nI k) (nI lo)).bind fun v5302 => ((j_X2_totalOf ml (nI d) sm (nI k) (nI lo)).bind fun v5303 => (if v5303 ≤ v5302 then (jL_X2_best_53 (nI 0) ml (nI d) sm (nI k) (nI p) z (nI lo) (nI lo + nI 1)) else (jL_X2_best_53 (nI 0) ml (nI d) sm (nI k) (nI p) z (nI lo) (nI lo + nI 1)))))) = _
  rw [if_neg (fun h9 => by have := (q_lt (by omega) (by omega)).mp h9; omega), q_totalOf hsm hol hd hli, Option.bind_some, Option.bind_some, nI_add]
  split <;> rfl
theorem q_mBest {fb sm : Nat → Int64} (hfb : ∀ i, i < 89 → fb i = lN (q_F i)) (hsm : ∀ i, 1 ≤ i → i < 92 → sm i = lN (q_F (i - 1))) {li ml : Nat → Int64} {g : Nat → Nat} {d : Nat} (hd : d ≤ 100) (hli : q_li li ml g d) (ou : Nat → Int64) (th a1 a2 : Int32) : (∃ x, j_L_best li (nI d) fb ou a1 a2 = some (nI 1, ou) ∧ j_X2_best th ml (nI d) sm a1 a2 = some (x, nI 1)) ∨ (∃ r : Int32, j_L_best li (nI d) fb ou a1 a2 = some (nI 0, vp_updL ou 0 r.toInt64) ∧ j_X2_best th ml (nI d) sm a1 a2 = some (r, nI 0)) := by
  unfold j_L_best j_X1_best j_X2_best
  by_cases c5 : a1 < (5 : Int32)
  · rw [if_pos c5, if_pos c5]
    exact Or.inl ⟨_, rfl, rfl⟩
  · rw [if_neg c5, if_neg c5]
    rcases q_code a1 a2 with ⟨k, p, rfl, rfl, ho, hI, hK⟩ | ⟨hI, hK⟩
    · have hk7 := ho.1
      have hp : p ≤ 1000000 := by
        obtain ⟨_, o1, o2, o3, o4⟩ := ho
        rcases (show k < 5 ∨ k = 5 ∨ k = 6 ∨ k = 7 by omega) with h | h | h | h
        · have := o1 h; omega
        · exact (o2 h).2
        · have := o3 h; omega
        · have := o4 h; omega
      have hk5 : 5 ≤ k := by
        rcases Nat.lt_or_ge k 5 with h | h
        · exact absurd ((q_lt (b := 5) (by omega) (by omega)).mpr h) c5
        · exact h
      rw [hI, hK, Option.bind_some, Option.bind_some, if_neg (show ¬ nI 1 = (0 : Int32) by decide), if_pos (show nI 0 = (0 : Int32) from rfl), q_i500]
      by_cases c6 : p ≤ 500
      · rw [if_neg (fun h9 => by have := (q_lt (by omega) (by omega)).mp h9; omega), if_pos ((q_le (by omega) (by omega)).mpr c6), q_lpar hk7, Option.bind_some]
        have key : ∃ lo, (if k = 5 ∨ k = 7 then 1 else 0) = lo ∧ lo ≤ p ∧ (∀ p', lo ≤ p' → p' ≤ p → q_ok k p') ∧ (if nI k = (6 : Int32) then (jL_X2_best_53 (0 : Int32) ml (nI d) sm (nI k) (nI p) jF (0 : Int32) (0 : Int32)) else (jL_X2_best_53 (0 : Int32) ml (nI d) sm (nI k) (nI p) jF (1 : Int32) (1 : Int32))) = jL_X2_best_53 (nI 0) ml (nI d) sm (nI k) (nI p) jF (nI lo) (nI lo) := by
          obtain ⟨_, o1, o2, o3, o4⟩ := ho
          rcases (show k = 5 ∨ k = 6 ∨ k = 7 by omega) with rfl | rfl | rfl
          · have := o2 rfl
            refine ⟨1, by decide, this.1, fun p' h3 h4 => ⟨by omega, fun h => by omega, fun _ => ⟨h3, by omega⟩, fun h => by omega, fun h => by omega⟩, ?_⟩
            rw [if_neg (by decide), q_i0, q_i1]
          · have := o3 rfl
            refine ⟨0, by decide, by omega, fun p' h3 h4 => ⟨by omega, fun h => by omega, fun h => by omega, fun _ => by omega, fun h => by omega⟩, ?_⟩
            rw [if_pos (by decide), q_i0]
          · have := o4 rfl
            refine ⟨1, by decide, this.1, fun p' h3 h4 => ⟨by omega, fun h => by omega, fun h => by omega, fun h => by omega, fun _ => ⟨h3, by omega⟩⟩, ?_⟩
            rw [if_neg (by decide), q_i0, q_i1]
        obtain ⟨lo, hlo, hlp, hok, eM⟩ := key
        rw [hlo, eM]
        have hol := hok lo (Nat.le_refl lo) hlp
        rw [q_listLength hfb hol hd hli, Option.bind_some, q_i1, nI_add]
        rw [show jF = 999999 + 1 from rfl, q_bestStep hsm hd hli hol hlp c6]
        obtain ⟨r, b1, b2⟩ := q_bestL hfb hsm hd hli c6 (p - lo) (999999 + 1) 999999 lo (lo + 1) (by omega) (by omega) (by omega) hol (fun p' h3 h4 => hok p' (by omega) h4)
        rw [b1, b2]
        exact Or.inr ⟨nI r, q_st, rfl⟩
      · rw [if_pos ((q_lt (by omega) (by omega)).mpr (by omega)), if_neg (fun h9 => c6 ((q_le (by omega) (by omega)).mp h9))]
        exact Or.inl ⟨_, rfl, rfl⟩
    · rw [hI, hK, Option.bind_some, Option.bind_some, if_pos (show nI 0 = (0 : Int32) from rfl), if_neg (show ¬ nI 1 = (0 : Int32) by decide)]
      split <;> exact Or.inl ⟨_, rfl, rfl⟩
/-! the cases -/
section
variable {w : Nat → Int64} {en pl cu : Int32} {li : Nat → Int64} {ld : Int32} {fb : Nat → Int64} {th : Int32} {rw : Nat → Int32} {mn at_ : Int32} {ml : Nat → Int64} {md_l : Int32} {wd : Nat → Int32} {md : Int32} {sm : Nat → Int64} {fr no : Int32} {ou : Nat → Int64} {v_1 v_2 v_3 v_4 : Int32}
theorem q_case0 (hJ : q_J w en pl li ld fb rw mn at_ ml md_l sm) : ∃ σ', jC_0 w en pl cu li ld fb th rw mn at_ ml md_l wd md sm fr no ou v_1 v_2 v_3 v_4 = some σ' ∧ q_I σ' := by
  obtain ⟨f, n, a, d, g, hw, hm, ha, hd, hli, hfb, hsm, _⟩ := id hJ
  unfold jC_0
  obtain ⟨x4, x2, e⟩ := q_pA (q_mLength hfb hsm ou th v_1 v_2 (((v_3.toInt64) <<< ((32 : Int32).toInt64 &&& 63)) ||| ((v_4.toInt64) &&& (4294967295 : Int64)))) (fun v4 v2 => (w, en, pl, cu, li, ld, fb, v4, rw, mn, at_, ml, md_l, wd, md, sm, fr, no, v2))
  exact ⟨_, e, hJ⟩
theorem q_case10 (hJ : q_J w en pl li ld fb rw mn at_ ml md_l sm) : ∃ σ', jC_10 w en pl cu li ld fb th rw mn at_ ml md_l wd md sm fr no ou v_1 v_2 v_3 v_4 = some σ' ∧ q_I σ' := by
  obtain ⟨f, n, a, d, g, hw, hm, ha, hd, hli, hfb, hsm, rfl, rfl, rfl, rfl, rfl, rfl⟩ := id hJ
  unfold jC_10
  obtain ⟨x4, x2, e⟩ := q_pA (q_mGet hd hli ou th v_1) (fun v4 v2 => (w, nI n, nI a, cu, li, nI d, fb, v4, rw, nI n, nI a, ml, nI d, wd, md, sm, fr, no, v2))
  exact ⟨_, e, hJ⟩
theorem q_case12 (hJ : q_J w en pl li ld fb rw mn at_ ml md_l sm) : ∃ σ', jC_12 w en pl cu li ld fb th rw mn at_ ml md_l wd md sm fr no ou v_1 v_2 v_3 v_4 = some σ' ∧ q_I σ' := by
  obtain ⟨f, n, a, d, g, hw, hm, ha, hd, hli, hfb, hsm, rfl, rfl, rfl, rfl, rfl, rfl⟩ := id hJ
  unfold jC_12
  obtain ⟨x4, x2, e⟩ := q_pA (q_mTotal hfb hsm hd hli ou th v_1 v_2) (fun v4 v2 => (w, nI n, nI a, cu, li, nI d, fb, v4, rw, nI n, nI a, ml, nI d, wd, md, sm, fr, no, v2))
  exact ⟨_, e, hJ⟩
theorem q_case13 (hJ : q_J w en pl li ld fb rw mn at_ ml md_l sm) : ∃ σ', jC_13 w en pl cu li ld fb th rw mn at_ ml md_l wd md sm fr no ou v_1 v_2 v_3 v_4 = some σ' ∧ q_I σ' := by
  obtain ⟨f, n, a, d, g, hw, hm, ha, hd, hli, hfb, hsm, rfl, rfl, rfl, rfl, rfl, rfl⟩ := id hJ
  unfold jC_13
  rcases q_mBest hfb hsm hd hli ou th v_1 v_2 with ⟨x, e1, e2⟩ | ⟨r, e1, e2⟩
  · rw [e1, e2]
    exact ⟨_, q_cl1 (X := none) (w, nI n, nI a, cu, li, nI d, fb, nI 1, rw, nI n, nI a, ml, nI d, wd, md, sm, fr, no, ou), hJ⟩
  · rw [e1, e2]
    exact ⟨_, q_cl0 (w, nI n, nI a, cu, li, nI d, fb, nI 0, rw, nI n, nI a, ml, nI d, wd, md, sm, fr, no, vp_updL ou 0 r.toInt64), hJ⟩
theorem q_case16 (hJ : q_J w en pl li ld fb rw mn at_ ml md_l sm) : ∃ σ', jC_16 w en pl cu li ld fb th rw mn at_ ml md_l wd md sm fr no ou v_1 v_2 v_3 v_4 = some σ' ∧ q_I σ' := by
  obtain ⟨f, n, a, d, g, hw, hm, ha, hd, hli, hfb, hsm, _⟩ := id hJ
  unfold jC_16
  obtain ⟨x4, x2, e⟩ := q_pA (q_mCount hfb hsm ou th v_1 v_2 v_3) (fun v4 v2 => (w, en, pl, cu, li, ld, fb, v4, rw, mn, at_, ml, md_l, wd, md, sm, fr, no, v2))
  exact ⟨_, e, hJ⟩
theorem q_case17 (hJ : q_J w en pl li ld fb rw mn at_ ml md_l sm) : ∃ σ', jC_17 w en pl cu li ld fb th rw mn at_ ml md_l wd md sm fr no ou v_1 v_2 v_3 v_4 = some σ' ∧ q_I σ' := by
  obtain ⟨f, n, a, d, g, hw, hm, ha, hd, hli, hfb, hsm, _⟩ := id hJ
  unfold jC_17
  obtain ⟨x4, x2, e⟩ := q_pA (q_mFirst hfb hsm ou th v_1 v_2 v_3) (fun v4 v2 => (w, en, pl, cu, li, ld, fb, v4, rw, mn, at_, ml, md_l, wd, md, sm, fr, no, v2))
  exact ⟨_, e, hJ⟩
theorem q_case18 (hJ : q_J w en pl li ld fb rw mn at_ ml md_l sm) : ∃ σ', jC_18 w en pl cu li ld fb th rw mn at_ ml md_l wd md sm fr no ou v_1 v_2 v_3 v_4 = some σ' ∧ q_I σ' := by
  obtain ⟨f, n, a, d, g, hw, hm, ha, hd, hli, hfb, hsm, _⟩ := id hJ
  unfold jC_18
  obtain ⟨x4, x2, e⟩ := q_pA (q_mBegun hfb hsm ou th v_1 v_2 v_3) (fun v4 v2 => (w, en, pl, cu, li, ld, fb, v4, rw, mn, at_, ml, md_l, wd, md, sm, fr, no, v2))
  exact ⟨_, e, hJ⟩
theorem q_case19 (hJ : q_J w en pl li ld fb rw mn at_ ml md_l sm) : ∃ σ', jC_19 w en pl cu li ld fb th rw mn at_ ml md_l wd md sm fr no ou v_1 v_2 v_3 v_4 = some σ' ∧ q_I σ' := by
  unfold jC_19
  obtain ⟨x4, x2, e⟩ := q_pA (q_mFold ou th (((v_1.toInt64) <<< ((32 : Int32).toInt64 &&& 63)) ||| ((v_2.toInt64) &&& (4294967295 : Int64)))) (fun v4 v2 => (w, en, pl, cu, li, ld, fb, v4, rw, mn, at_, ml, md_l, wd, md, sm, fr, no, v2))
  exact ⟨_, e, hJ⟩
theorem q_case20 (hJ : q_J w en pl li ld fb rw mn at_ ml md_l sm) : ∃ σ', jC_20 w en pl cu li ld fb th rw mn at_ ml md_l wd md sm fr no ou v_1 v_2 v_3 v_4 = some σ' ∧ q_I σ' := by
  unfold jC_20
  obtain ⟨x4, x2, e⟩ := q_pA (q_mUnfold ou th (((v_1.toInt64) <<< ((32 : Int32).toInt64 &&& 63)) ||| ((v_2.toInt64) &&& (4294967295 : Int64)))) (fun v4 v2 => (w, en, pl, cu, li, ld, fb, v4, rw, mn, at_, ml, md_l, wd, md, sm, fr, no, v2))
  exact ⟨_, e, hJ⟩
theorem q_case4 (hJ : q_J w en pl li ld fb rw mn at_ ml md_l sm) : ∃ σ', jC_4 w en pl cu li ld fb th rw mn at_ ml md_l wd md sm fr no ou v_1 v_2 v_3 v_4 = some σ' ∧ q_I σ' := by
  obtain ⟨f, n, a, d, g, hw, hm, ha, hd, hli, hfb, hsm, rfl, rfl, rfl, rfl, rfl, rfl⟩ := id hJ
  obtain ⟨r, e1, e2⟩ := q_bitsL hw hm v_1 64 jF jF 0 0 (by omega) (by unfold jF; omega) (by unfold jF; omega) (by decide)
  unfold jC_4 j_X1_bits j_X2_bits
  rw [q_l0, q_i0, e1, e2]
  refine ⟨(w, nI n, nI a, cu, li, nI d, fb, nI 0, rw, nI n, nI a, ml, nI d, wd, md, sm, fr, no, ou), ?_, hJ⟩
  show (if r = r then some (w, nI n, nI a, cu, li, nI d, fb, nI 0, rw, nI n, nI a, ml, nI d, wd, md, sm, fr, no, ou) else none) = _
  rw [if_pos rfl]
theorem q_case5 (hJ : q_J w en pl li ld fb rw mn at_ ml md_l sm) : ∃ σ', jC_5 w en pl cu li ld fb th rw mn at_ ml md_l wd md sm fr no ou v_1 v_2 v_3 v_4 = some σ' ∧ q_I σ' := by
  obtain ⟨f, n, a, d, g, hw, hm, ha, hd, hli, hfb, hsm, rfl, rfl, rfl, rfl, rfl, rfl⟩ := id hJ
  refine ⟨(w, nI n, nI a, cu, li, nI d, fb, 0, rw, nI n, nI a, ml, nI d, wd, md, sm, fr, no, ou), ?_, hJ⟩
  show (if nI n = nI n then some (w, nI n, nI a, cu, li, nI d, fb, 0, rw, nI n, nI a, ml, nI d, wd, md, sm, fr, no, ou) else none) = _
  rw [if_pos rfl]
theorem q_case6 (hJ : q_J w en pl li ld fb rw mn at_ ml md_l sm) : ∃ σ', jC_6 w en pl cu li ld fb th rw mn at_ ml md_l wd md sm fr no ou v_1 v_2 v_3 v_4 = some σ' ∧ q_I σ' := by
  obtain ⟨f, n, a, d, g, hw, hm, ha, hd, hli, hfb, hsm, rfl, rfl, rfl, rfl, rfl, rfl⟩ := id hJ
  refine ⟨(w, nI n, nI a, cu, li, nI d, fb, 0, rw, nI n, nI a, ml, nI d, wd, md, sm, fr, no, ou), ?_, hJ⟩
  show (if nI a = nI a then some (w, nI n, nI a, cu, li, nI d, fb, 0, rw, nI n, nI a, ml, nI d, wd, md, sm, fr, no, ou) else none) = _
  rw [if_pos rfl]
theorem q_case7 (hJ : q_J w en pl li ld fb rw mn at_ ml md_l sm) : ∃ σ', jC_7 w en pl cu li ld fb th rw mn at_ ml md_l wd md sm fr no ou v_1 v_2 v_3 v_4 = some σ' ∧ q_I σ' := by
  obtain ⟨f, n, a, d, g, hw, hm, ha, hd, hli, hfb, hsm, rfl, rfl, rfl, rfl, rfl, rfl⟩ := id hJ
  have hn := hw.2.2.1
  unfold jC_7 j_L_seek j_X1_seek j_X2_seek j_X2_thrown
  by_cases c : v_1 < 0
  · rw [if_pos c, if_pos c]
    exact ⟨(w, nI n, nI a, cu, li, nI d, fb, 1, rw, nI n, nI a, ml, nI d, wd, md, sm, fr, no, ou), rfl, hJ⟩
  · obtain ⟨i, hi, rfl⟩ := q_posI c
    rw [if_neg c, if_neg c]
    by_cases c2 : i ≤ n
    · have c2' := (q_le (b := n) hi (by omega)).mpr c2
      rw [if_pos c2', if_pos c2']
      exact ⟨(w, nI n, nI i, cu, li, nI d, fb, 0, rw, nI n, nI i, ml, nI d, wd, md, sm, fr, no, ou), rfl, f, n, i, d, g, hw, hm, c2, hd, hli, hfb, hsm, rfl, rfl, rfl, rfl, rfl, rfl⟩
    · have c2' : ¬ nI i ≤ nI n := fun h9 => c2 ((q_le hi (by omega)).mp h9)
      rw [if_neg c2', if_neg c2']
      exact ⟨(w, nI n, nI a, cu, li, nI d, fb, 1, rw, nI n, nI a, ml, nI d, wd, md, sm, fr, no, ou), rfl, hJ⟩
theorem q_case8 (hJ : q_J w en pl li ld fb rw mn at_ ml md_l sm) : ∃ σ', jC_8 w en pl cu li ld fb th rw mn at_ ml md_l wd md sm fr no ou v_1 v_2 v_3 v_4 = some σ' ∧ q_I σ' := by
  obtain ⟨f, n, a, d, g, hw, hm, ha, hd, hli, hfb, hsm, rfl, rfl, rfl, rfl, rfl, rfl⟩ := id hJ
  obtain ⟨w', e, hz⟩ := q_fillL 64 jF 0 w (by omega) (by unfold jF; omega) (fun j hj => by omega)
  unfold jC_8 j_X1_wipe j_X0_makeEmpty j_J7_fill_d0a16 j_X2_wipe
  rw [q_l0, q_i64, q_i0, e]
  refine ⟨(w', nI 0, nI 0, cu, li, nI d, fb, nI 0, rw, nI 0, nI 0, ml, nI d, wd, md, sm, fr, no, ou), ?_, fun _ => 0, 0, 0, d, g, q_zero hz, fun i hi => by omega, by omega, hd, hli, hfb, hsm, rfl, rfl, rfl, rfl, rfl, rfl⟩
  show (if nI n = nI n then some (w', nI 0, nI 0, cu, li, nI d, fb, nI 0, rw, nI 0, nI 0, ml, nI d, wd, md, sm, fr, no, ou) else none) = _
  rw [if_pos rfl]
theorem q_case11 (hJ : q_J w en pl li ld fb rw mn at_ ml md_l sm) : ∃ σ', jC_11 w en pl cu li ld fb th rw mn at_ ml md_l wd md sm fr no ou v_1 v_2 v_3 v_4 = some σ' ∧ q_I σ' := by
  obtain ⟨f, n, a, d, g, hw, hm, ha, hd, hli, hfb, hsm, rfl, rfl, rfl, rfl, rfl, rfl⟩ := id hJ
  refine ⟨(w, nI n, nI a, cu, li, 0, fb, 0, rw, nI n, nI a, ml, 0, wd, md, sm, fr, no, ou), ?_, f, n, a, 0, g, hw, hm, ha, by omega, fun i hi => by omega, hfb, hsm, rfl, rfl, rfl, rfl, rfl, rfl⟩
  show (if nI d = nI d then some (w, nI n, nI a, cu, li, 0, fb, 0, rw, nI n, nI a, ml, 0, wd, md, sm, fr, no, ou) else none) = _
  rw [if_pos rfl]
theorem q_case1 (hJ : q_J w en pl li ld fb rw mn at_ ml md_l sm) : ∃ σ', jC_1 w en pl cu li ld fb th rw mn at_ ml md_l wd md sm fr no ou v_1 v_2 v_3 v_4 = some σ' ∧ q_I σ' := by
  obtain ⟨f, n, a, d, g, hw, hm, ha, hd, hli, hfb, hsm, rfl, rfl, rfl, rfl, rfl, rfl⟩ := id hJ
  have hn4 := hw.2.2.1
  unfold jC_1 j_L_put j_X1_put j_X2_put j_X2_thrown
  generalize ((v_3.toInt64) <<< ((32 : Int32).toInt64 &&& 63)) ||| ((v_4.toInt64) &&& (4294967295 : Int64)) = x
  rcases q_code v_1 v_2 with ⟨k, p, rfl, rfl, ho, hI, hK⟩ | ⟨hI, hK⟩
  · rw [q_reqC hI, hK, q_try1]
    rcases q_numb x with ⟨N, rfl, hN, r1, r2⟩ | ⟨r1, r2⟩
    · have hlen := q_len_le ho hN
      have hN2 := hN.2
      rw [r1, r2, q_try1]
      by_cases c : n + q_len k p N ≤ 4096
      · obtain ⟨w1, a1, b1⟩ := q_appIf hfb hw ho hN c
        obtain ⟨rw1, wd1, md1, a2, b2⟩ := q_puts hsm (wd := wd) (md := md) hm hn4 ho hN c
        rw [a1, a2]
        exact ⟨_, q_cl0 (ou := ou) (y := (nI (n + q_len k p N)).toInt64) (w1, nI (n + q_len k p N), nI a, cu, li, nI d, fb, nI 0, rw1, nI (n + q_len k p N), nI a, ml, nI d, wd1, md1, sm, fr, no, vp_updL ou 0 (nI (n + q_len k p N)).toInt64), _, n + q_len k p N, a, d, g, b1, b2, by omega, hd, hli, hfb, hsm, rfl, rfl, rfl, rfl, rfl, rfl⟩
      · rw [q_appIfNo hfb hn4 ho hN (by omega) (by omega), q_putsNo hsm hn4 ho hN (by omega) (by omega)]
        exact ⟨_, q_cl0 (ou := ou) (y := (-1 : Int32).toInt64) (w, nI n, nI a, cu, li, nI d, fb, nI 0, rw, nI n, nI a, ml, nI d, wd, md, sm, fr, no, vp_updL ou 0 (-1 : Int32).toInt64), hJ⟩
    · rw [r1, r2, q_try0]
      exact ⟨_, q_cl1 (X := none) (w, nI n, nI a, cu, li, nI d, fb, nI 1, rw, nI n, nI a, ml, nI d, wd, md, sm, fr, no, ou), hJ⟩
  · rw [q_reqN hI, hK, q_try0]
    exact ⟨_, q_cl1 (X := none) (w, nI n, nI a, cu, li, nI d, fb, nI 1, rw, nI n, nI a, ml, nI d, wd, md, sm, fr, no, ou), hJ⟩
end
