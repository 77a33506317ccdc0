/-! The loops of best, putAll, takeAll, push, bits, wipe: class and reference side by side. -/
theorem q_bestL {fb sm : Nat → Int64} (hfb : ∀ i, i < 89 → fb i = lN (q_F i)) (hsm : ∀ i, 1 ≤ i → i < 92 → sm i = lN (q_F (i - 1))) {li ml : Nat → Int64} {g : Nat → Nat} {k d M : Nat} (hd : d ≤ 100) (hli : q_li li ml g d) (hM : M ≤ 500) : ∀ (m z1 z2 ans p : Nat), p + m = M + 1 → m < z1 → m < z2 → q_ok k ans → (∀ p', p ≤ p' → p' ≤ M → q_ok k p') → ∃ r, jL_X1_best_48 li (nI d) fb (nI k) (nI M) z1 (nI ans) (lN (q_sat k ans g d)) (nI p) = some (nI r) ∧ jL_X2_best_53 (nI 0) ml (nI d) sm (nI k) (nI M) z2 (nI ans) (nI p) = some (nI r, nI 0) := by
  intro m
  induction m with
  | zero =>
    intro z1 z2 ans p hp h1 h2 ho hok
    obtain ⟨z1, rfl⟩ : ∃ y, z1 = y + 1 := ⟨z1 - 1, by omega⟩
    obtain ⟨z2, rfl⟩ : ∃ y, z2 = y + 1 := ⟨z2 - 1, by omega⟩
    refine ⟨ans, ?_, ?_⟩
    · show (if nI M < nI p then some (nI ans) else _) = _
      rw [if_pos ((q_lt (by omega) (by omega)).mpr (by omega))]
    · show (if nI M < nI p then some (nI ans, nI 0) else _) = _
      rw [if_pos ((q_lt (by omega) (by omega)).mpr (by omega))]
  | succ m ih =>
    intro z1 z2 ans p hp h1 h2 ho hok
    obtain ⟨z1, rfl⟩ : ∃ y, z1 = y + 1 := ⟨z1 - 1, by omega⟩
    obtain ⟨z2, rfl⟩ : ∃ y, z2 = y + 1 := ⟨z2 - 1, by omega⟩
    have hop := hok p (Nat.le_refl p) (by omega)
    have s1 := q_sat_le k p g d
    have s2 := q_sat_le k ans g d
    have eC : jL_X1_best_48 li (nI d) fb (nI k) (nI M) (z1 + 1) (nI ans) (lN (q_sat k ans g d)) (nI p) = (if lN (q_sat k ans g d) ≤ lN (q_sat k p g d) then (jL_X1_best_48 li (nI d) fb (nI k) (nI M) z1 (nI ans) (lN (q_sat k ans g d)) (nI (p + 1))) else (jL_X1_best_48 li (nI d) fb (nI k) (nI M) z1 (nI p) (lN (q_sat k p g d)) (nI (p + 1)))) := by
      show (if nI M < nI p then some (nI ans) else ((j_X1_listLength li (nI d) fb (nI k) (nI p)).bind fun v4802 => (if lN (q_sat k ans g d) ≤ v4802 then (jL_X1_best_48 li (nI d) fb (nI k) (nI M) z1 (nI ans) (lN (q_sat k ans g d)) (nI p + nI 1)) else (jL_X1_best_48 li (nI d) fb (nI k) (nI M) z1 (nI p) v4802 (nI p + nI 1))))) = _
      rw [if_neg (fun h9 => by have := (q_lt (by omega) (by omega)).mp h9; omega), q_listLength hfb hop hd hli, Option.bind_some, nI_add]
    have eM : jL_X2_best_53 (nI 0) ml (nI d) sm (nI k) (nI M) (z2 + 1) (nI ans) (nI p) = (if lN (q_sat k ans g d) ≤ lN (q_sat k p g d) then (jL_X2_best_53 (nI 0) ml (nI d) sm (nI k) (nI M) z2 (nI ans) (nI (p + 1))) else (jL_X2_best_53 (nI 0) ml (nI d) sm (nI k) (nI M) z2 (nI p) (nI (p + 1)))) := by
      show (if nI M < nI p then some (nI ans, nI 0) else ((j_X2_totalOf ml (nI d) sm (nI k) (nI p)).bind fun v5302 => ((j_X2_totalOf ml (nI d) sm (nI k) (nI ans)).bind fun v5303 => (if v5303 ≤ v5302 then (jL_X2_best_53 (nI 0) ml (nI d) sm (nI k) (nI M) z2 (nI ans) (nI p + nI 1)) else (jL_X2_best_53 (nI 0) ml (nI d) sm (nI k) (nI M) z2 (nI p) (nI p + nI 1)))))) = _
      rw [if_neg (fun h9 => by have := (q_lt (by omega) (by omega)).mp h9; omega), q_totalOf hsm hop hd hli, Option.bind_some, q_totalOf hsm ho hd hli, Option.bind_some, nI_add]
    rw [eC, eM]
    by_cases c : lN (q_sat k ans g d) ≤ lN (q_sat k p g d)
    · rw [if_pos c, if_pos c]
      exact ih z1 z2 ans (p + 1) (by omega) (by omega) (by omega) ho (fun p' h3 h4 => hok p' (by omega) h4)
    · rw [if_neg c, if_neg c]
      exact ih z1 z2 p (p + 1) (by omega) (by omega) (by omega) hop (fun p' h3 h4 => hok p' (by omega) h4)
theorem q_putAllL {fb sm : Nat → Int64} (hfb : ∀ i, i < 89 → fb i = lN (q_F i)) (hsm : ∀ i, 1 ≤ i → i < 92 → sm i = lN (q_F (i - 1))) {li ml : Nat → Int64} {g : Nat → Nat} {k p d : Nat} (ho : q_ok k p) (hd : d ≤ 100) (hli : q_li li ml g d) : ∀ (m z1 z2 i n : Nat) (w : Nat → Int64) (rw wd : Nat → Int32) (md : Int32) (f : Nat → Nat), i + m = d → m < z1 → m < z2 → q_row w f n → q_rm rw f n → ∃ r w' rw' wd' md' f' n', jL_X1_putAll_7 li (nI d) fb (nI k) (nI p) z1 (nI i) w (nI n) = some (nI r, w', nI n') ∧ jL_X2_putAll_19 (nI 0) ml (nI d) sm (nI k) (nI p) z2 (nI i) rw (nI n) wd md = some (nI r, nI 0, rw', nI n', wd', md') ∧ q_row w' f' n' ∧ q_rm rw' f' n' ∧ n ≤ n' := by
  intro m
  induction m with
  | zero =>
    intro z1 z2 i n w rw wd md f hi h1 h2 hw hm
    obtain ⟨z1, rfl⟩ : ∃ y, z1 = y + 1 := ⟨z1 - 1, by omega⟩
    obtain ⟨z2, rfl⟩ : ∃ y, z2 = y + 1 := ⟨z2 - 1, by omega⟩
    refine ⟨d, w, rw, wd, md, f, n, ?_, ?_, hw, hm, Nat.le_refl n⟩
    · show (if nI d ≤ nI i then some (nI d, w, nI n) else _) = _
      rw [if_pos ((q_le (by omega) (by omega)).mpr (by omega))]
    · show (if nI 0 = (0 : Int32) then (if nI d ≤ nI i then some (nI i, nI 0, rw, nI n, wd, md) else _) else _) = _
      rw [if_pos (show nI 0 = (0 : Int32) from rfl), if_pos ((q_le (by omega) (by omega)).mpr (by omega)), show i = d by omega]
  | succ m ih =>
    intro z1 z2 i n w rw wd md f hi h1 h2 hw hm
    obtain ⟨z1, rfl⟩ : ∃ y, z1 = y + 1 := ⟨z1 - 1, by omega⟩
    obtain ⟨z2, rfl⟩ : ∃ y, z2 = y + 1 := ⟨z2 - 1, by omega⟩
    obtain ⟨hn, e1, e2⟩ := hli i (by omega)
    have hn4 := hw.2.2.1
    have hlen := q_len_le ho hn
    have hn2 := hn.2
    have eC : jL_X1_putAll_7 li (nI d) fb (nI k) (nI p) (z1 + 1) (nI i) w (nI n) = (j_X1_appendIfRoom w (nI n) fb (nI k) (nI p) (lN (g i))).bind fun (v702, v703, v704) => (if v702 = (0 : Int32) then (some (nI i, v703, v704)) else (jL_X1_putAll_7 li (nI d) fb (nI k) (nI p) z1 (nI (i + 1)) v703 v704)) := by
      show (if nI d ≤ nI i then some (nI d, w, nI n) else (jix (nI i) 100 ((j_X1_appendIfRoom w (nI n) fb (nI k) (nI p) (li (nI i).toNatClampNeg)).bind fun (v702, v703, v704) => (if v702 = (0 : Int32) then (some (nI i, v703, v704)) else (jL_X1_putAll_7 li (nI d) fb (nI k) (nI p) z1 (nI i + nI 1) v703 v704))))) = _
      rw [if_neg (fun h9 => by have := (q_le (by omega) (by omega)).mp h9; omega), q_jix (by omega) (by omega), q_clamp (by omega), e1, nI_add]
    have eM : jL_X2_putAll_19 (nI 0) ml (nI d) sm (nI k) (nI p) (z2 + 1) (nI i) rw (nI n) wd md = (j_X2_puts rw (nI n) wd md sm (nI k) (nI p) (lN (g i))).bind fun (v1903, v1904, v1905, v1906, v1907) => (if v1903 = (0 : Int32) then (some (nI i, nI 0, v1904, v1905, v1906, v1907)) else (jL_X2_putAll_19 (nI 0) ml (nI d) sm (nI k) (nI p) z2 (nI (i + 1)) v1904 v1905 v1906 v1907)) := by
      show (if nI 0 = (0 : Int32) then (if nI d ≤ nI i then some (nI i, nI 0, rw, nI n, wd, md) else (jix (nI i) 100 ((j_X2_puts rw (nI n) wd md sm (nI k) (nI p) (ml (nI i).toNatClampNeg)).bind fun (v1903, v1904, v1905, v1906, v1907) => (if v1903 = (0 : Int32) then (some (nI i, nI 0, v1904, v1905, v1906, v1907)) else (jL_X2_putAll_19 (nI 0) ml (nI d) sm (nI k) (nI p) z2 (nI i + nI 1) v1904 v1905 v1906 v1907))))) else _) = _
      rw [if_pos (show nI 0 = (0 : Int32) from rfl), if_neg (fun h9 => by have := (q_le (by omega) (by omega)).mp h9; omega), q_jix (by omega) (by omega), q_clamp (by omega), e2, nI_add]
    rw [eC, eM]
    by_cases c : n + q_len k p (g i) ≤ 4096
    · obtain ⟨w1, a1, r1⟩ := q_appIf hfb hw ho hn c
      obtain ⟨rw1, wd1, md1, a2, r2⟩ := q_puts hsm (wd := wd) (md := md) hm hn4 ho hn c
      rw [a1, a2, Option.bind_some, Option.bind_some]
      obtain ⟨r, w', rw', wd', md', f', n', b1, b2, b3, b4, b5⟩ := ih z1 z2 (i + 1) (n + q_len k p (g i)) w1 rw1 wd1 md1 _ (by omega) (by omega) (by omega) r1 r2
      refine ⟨r, w', rw', wd', md', f', n', ?_, ?_, b3, b4, by omega⟩
      · show (if nI 1 = (0 : Int32) then _ else (jL_X1_putAll_7 li (nI d) fb (nI k) (nI p) z1 (nI (i + 1)) w1 (nI (n + q_len k p (g i))))) = _
        rw [if_neg (by decide)]
        exact b1
      · show (if nI 1 = (0 : Int32) then _ else (jL_X2_putAll_19 (nI 0) ml (nI d) sm (nI k) (nI p) z2 (nI (i + 1)) rw1 (nI (n + q_len k p (g i))) wd1 md1)) = _
        rw [if_neg (by decide)]
        exact b2
    · rw [q_appIfNo hfb hn4 ho hn (by omega) (by omega), q_putsNo hsm hn4 ho hn (by omega) (by omega), Option.bind_some, Option.bind_some]
      refine ⟨i, w, rw, wd, md, f, n, ?_, ?_, hw, hm, Nat.le_refl n⟩
      · show (if nI 0 = (0 : Int32) then (some (nI i, w, nI n)) else _) = _
        rw [if_pos (show nI 0 = (0 : Int32) from rfl)]
      · show (if nI 0 = (0 : Int32) then (some (nI i, nI 0, rw, nI n, wd, md)) else _) = _
        rw [if_pos (show nI 0 = (0 : Int32) from rfl)]
theorem q_li_up {li ml : Nat → Int64} {g : Nat → Nat} {d v : Nat} (h : q_li li ml g d) (hv : q_num v) : q_li (vp_updL li d (lN v)) (vp_updL ml d (lN v)) (fun i => if i = d then v else g i) (d + 1) := by
  intro i hi
  by_cases c : i = d
  · subst c
    dsimp only
    rw [pk_uLs, pk_uLs, if_pos rfl]
    exact ⟨hv, rfl, rfl⟩
  · dsimp only
    rw [pk_uLn c, pk_uLn c, if_neg c]
    exact h i (by omega)
theorem q_takeAllL {w : Nat → Int64} {rw : Nat → Int32} {fb sm : Nat → Int64} (hfb : ∀ i, i < 89 → fb i = lN (q_F i)) (hsm : ∀ i, 1 ≤ i → i < 92 → sm i = lN (q_F (i - 1))) {f : Nat → Nat} {n k p : Nat} (h : q_row w f n) (hm : q_rm rw f n) (ho : q_ok k p) : ∀ (m z1 z2 i a : Nat) (cu fr no : Int32) (li ml : Nat → Int64) (g : Nat → Nat), i + m = 100 → m < z1 → m + 1 < z2 → a ≤ n → q_li li ml g i → ∃ d' a' cu' fr' no' li' ml' g', jL_X1_takeAll_12 w (nI n) fb (nI k) (nI p) z1 (nI i) (nI a) cu li (nI i) = some (nI d', nI a', cu', li', nI d') ∧ jL_X2_takeAll_33 (nI 0) rw (nI n) sm (nI k) (nI p) z2 (nI 1) (nI a) ml (nI i) fr no = some (nI d', nI 0, nI a', ml', nI d', fr', no') ∧ a' ≤ n ∧ d' ≤ 100 ∧ q_li li' ml' g' d' := by
  intro m
  induction m with
  | zero =>
    intro z1 z2 i a cu fr no li ml g hi h1 h2 ha hl
    obtain ⟨z1, rfl⟩ : ∃ y, z1 = y + 1 := ⟨z1 - 1, by omega⟩
    obtain ⟨z2, rfl⟩ : ∃ y, z2 = y + 1 := ⟨z2 - 1, by omega⟩
    refine ⟨i, a, cu, fr, no, li, ml, g, ?_, ?_, ha, by omega, hl⟩
    · show (if nI 100 ≤ nI i then some (nI i, nI a, cu, li, nI i) else _) = _
      rw [if_pos ((q_le (by omega) (by omega)).mpr (by omega))]
    · show (if nI 1 = (0 : Int32) then _ else (if nI 100 ≤ nI i then some (nI i, nI 0, nI a, ml, nI i, fr, no) else _)) = _
      rw [if_neg (by decide), if_pos ((q_le (by omega) (by omega)).mpr (by omega))]
  | succ m ih =>
    intro z1 z2 i a cu fr no li ml g hi h1 h2 ha hl
    obtain ⟨z1, rfl⟩ : ∃ y, z1 = y + 1 := ⟨z1 - 1, by omega⟩
    obtain ⟨z2, rfl⟩ : ∃ y, z2 = y + 2 := ⟨z2 - 2, by omega⟩
    have eC : jL_X1_takeAll_12 w (nI n) fb (nI k) (nI p) (z1 + 1) (nI i) (nI a) cu li (nI i) = (j_X1_readNext w (nI n) (nI a) cu fb (nI k) (nI p)).bind fun (v1202, v1203, v1204) => (if v1202 = (-1 : Int64) then (some (nI i, v1203, v1204, li, nI i)) else (jL_X1_takeAll_12 w (nI n) fb (nI k) (nI p) z1 (nI (i + 1)) v1203 v1204 (vp_updL li i v1202) (nI (i + 1)))) := by
      show (if nI 100 ≤ nI i then some (nI i, nI a, cu, li, nI i) else ((j_X1_readNext w (nI n) (nI a) cu fb (nI k) (nI p)).bind fun (v1202, v1203, v1204) => (if v1202 = (-1 : Int64) then (some (nI i, v1203, v1204, li, nI i)) else (jix (nI i) 100 (jL_X1_takeAll_12 w (nI n) fb (nI k) (nI p) z1 (nI i + nI 1) v1203 v1204 (vp_updL li (nI i).toNatClampNeg v1202) (nI i + nI 1)))))) = _
      rw [if_neg (fun h9 => by have := (q_le (by omega) (by omega)).mp h9; omega), nI_add, q_clamp (by omega)]
      simp only [q_jix (show i < 100 by omega) (show 100 < 2147483648 by omega)]
    have eM : jL_X2_takeAll_33 (nI 0) rw (nI n) sm (nI k) (nI p) (z2 + 2) (nI 1) (nI a) ml (nI i) fr no = (j_X2_reads rw (nI n) (nI a) sm fr no (nI k) (nI p)).bind fun (v3303, v3304, v3305, v3306) => (if v3303 = (-1 : Int64) then (jL_X2_takeAll_33 (nI 0) rw (nI n) sm (nI k) (nI p) (z2 + 1) (nI 0) v3304 ml (nI i) v3305 v3306) else (jL_X2_takeAll_33 (nI 0) rw (nI n) sm (nI k) (nI p) (z2 + 1) (nI 1) v3304 (vp_updL ml i v3303) (nI (i + 1)) v3305 v3306)) := by
      show (if nI 1 = (0 : Int32) then _ else (if nI 100 ≤ nI i then some (nI i, nI 0, nI a, ml, nI i, fr, no) else ((j_X2_reads rw (nI n) (nI a) sm fr no (nI k) (nI p)).bind fun (v3303, v3304, v3305, v3306) => (if v3303 = (-1 : Int64) then (jL_X2_takeAll_33 (nI 0) rw (nI n) sm (nI k) (nI p) (z2 + 1) (nI 0) v3304 ml (nI i) v3305 v3306) else (jix (nI i) 100 (jL_X2_takeAll_33 (nI 0) rw (nI n) sm (nI k) (nI p) (z2 + 1) (nI 1) v3304 (vp_updL ml (nI i).toNatClampNeg v3303) (nI i + nI 1) v3305 v3306)))))) = _
      rw [if_neg (by decide), if_neg (fun h9 => by have := (q_le (by omega) (by omega)).mp h9; omega), nI_add, q_clamp (by omega)]
      simp only [q_jix (show i < 100 by omega) (show 100 < 2147483648 by omega)]
    rw [eC, eM]
    rcases q_next1 (cu := cu) (fr := fr) (no := no) hfb hsm h hm ha ho with ⟨v, e, hv, he, ⟨cu', a1⟩, fr', no', a2⟩ | ⟨⟨cu', a1⟩, fr', no', a2⟩
    · rw [a1, a2, Option.bind_some, Option.bind_some]
      obtain ⟨d', a', cu2, fr2, no2, li', ml', g', b1, b2, b3⟩ := ih z1 (z2 + 1) (i + 1) e cu' fr' no' _ _ _ (by omega) (by omega) (by omega) he (q_li_up hl hv)
      have hne := q_neg1 (v := v) (by have := hv.2; omega)
      refine ⟨d', a', cu2, fr2, no2, li', ml', g', ?_, ?_, b3⟩
      · show (if lN v = (-1 : Int64) then _ else (jL_X1_takeAll_12 w (nI n) fb (nI k) (nI p) z1 (nI (i + 1)) (nI e) cu' (vp_updL li i (lN v)) (nI (i + 1)))) = _
        rw [if_neg hne]
        exact b1
      · show (if lN v = (-1 : Int64) then _ else (jL_X2_takeAll_33 (nI 0) rw (nI n) sm (nI k) (nI p) (z2 + 1) (nI 1) (nI e) (vp_updL ml i (lN v)) (nI (i + 1)) fr' no')) = _
        rw [if_neg hne]
        exact b2
    · rw [a1, a2, Option.bind_some, Option.bind_some]
      refine ⟨i, a, cu', fr', no', li, ml, g, ?_, ?_, ha, by omega, hl⟩
      · show (if (-1 : Int64) = (-1 : Int64) then (some (nI i, nI a, cu', li, nI i)) else _) = _
        rw [if_pos rfl]
      · show (if (-1 : Int64) = (-1 : Int64) then (jL_X2_takeAll_33 (nI 0) rw (nI n) sm (nI k) (nI p) (z2 + 1) (nI 0) (nI a) ml (nI i) fr' no') else _) = _
        rw [if_pos rfl]
        show (if nI 0 = (0 : Int32) then some (nI i, nI 0, nI a, ml, nI i, fr', no') else _) = _
        rw [if_pos (show nI 0 = (0 : Int32) from rfl)]
/-! push -/
theorem q_toI {x : Nat} (hx : x < 18446744073709551616) : (lN x).toInt = if x < 9223372036854775808 then (x : Int) else (x : Int) - 18446744073709551616 := by
  show (Int64.ofNat x).toInt = _
  rw [Int64.toInt_ofNat']
  simp only [Int.bmod, show Int64.size = 18446744073709551616 from rfl]
  split <;> split <;> omega
theorem q_sbit {x k : Nat} (hx : x < 18446744073709551616) (hk : k < 64) : (lN x >>> ((nI k).toInt64 &&& 63)) &&& (1 : Int64) = lN (x / 2 ^ k % 2) := by
  have e : (lN x >>> ((nI k).toInt64 &&& 63)).toInt = (lN x).toInt >>> k := by
    have h := q_s64 k hk
    conv => rhs; rw [← h]
    exact BitVec.toInt_sshiftRight ..
  obtain ⟨Y, hY, eY⟩ := wb_of (lN x >>> ((nI k).toInt64 &&& 63))
  rw [eY] at e ⊢
  rw [wb_a1 hY]
  rw [q_toI (show Y < 18446744073709551616 from hY), q_toI hx, Int.shiftRight_eq_div_pow] at e
  have hp := Nat.two_pow_pos k
  congr 1
  have hd : ((x / 2 ^ k : Nat) : Int) = (x : Int) / ((2 ^ k : Nat) : Int) := Int.natCast_ediv _ _
  have hp2 : ((2 ^ k : Nat) : Int) * ((2 * 2 ^ (63 - k) : Nat) : Int) = 18446744073709551616 := by
    rw [← Int.natCast_mul, ← Nat.pow_succ', ← Nat.pow_add, show k + (63 - k).succ = 64 by omega]
    rfl
  have hneg : ((x : Int) - 18446744073709551616) / ((2 ^ k : Nat) : Int) = (x : Int) / ((2 ^ k : Nat) : Int) - ((2 * 2 ^ (63 - k) : Nat) : Int) := by
    rw [← hp2, Int.sub_mul_ediv_left _ _ (by omega)]
  by_cases c : x < 9223372036854775808
  · rw [if_pos c] at e
    have e : (if Y < 9223372036854775808 then (Y : Int) else (Y : Int) - 18446744073709551616) = (x : Int) / ((2 ^ k : Nat) : Int) := e
    rw [← hd] at e
    split at e <;> omega
  · rw [if_neg c] at e
    have e : (if Y < 9223372036854775808 then (Y : Int) else (Y : Int) - 18446744073709551616) = ((x : Int) - 18446744073709551616) / ((2 ^ k : Nat) : Int) := e
    rw [hneg, ← hd] at e
    split at e <;> omega
theorem q_pushL {x N n : Nat} {f : Nat → Nat} (hx : x < 18446744073709551616) (hN : N ≤ 64) (hn : n + N ≤ 4096) : ∀ (m z k : Nat) (rw : Nat → Int32), k + m = N → m < z → (∀ i, i < n + k → rw i = nI (q_ap f n (q_ms (x / 2 ^ (64 - N)) N) N i)) → ∃ rw', jL_X2_push_46 (nI 0) (lN x) (nI N) z (nI k) rw (nI (n + k)) = some (nI (n + N), nI 0, rw', nI (n + N)) ∧ q_rm rw' (q_ap f n (q_ms (x / 2 ^ (64 - N)) N) N) (n + N) := by
  intro m
  induction m with
  | zero =>
    intro z k rw hk hz h
    cases z with
    | zero => omega
    | succ z =>
      show ∃ rw', (if nI N ≤ nI k then some (nI (n + k), nI 0, rw, nI (n + k)) else _) = _ ∧ _
      rw [if_pos ((q_le (by omega) (by omega)).mpr (by omega))]
      rw [show k = N by omega] at h ⊢
      exact ⟨rw, rfl, h⟩
  | succ m ih =>
    intro z k rw hk hz h
    cases z with
    | zero => omega
    | succ z =>
      show ∃ rw', (if nI N ≤ nI k then some (nI (n + k), nI 0, rw, nI (n + k)) else (jix (nI (n + k)) 4096 (jL_X2_push_46 (nI 0) (lN x) (nI N) z (nI k + nI 1) (upd rw (nI (n + k)).toNatClampNeg (((lN x >>> ((nI 63 - nI k).toInt64 &&& 63)) &&& (1 : Int64)).toInt32)) (nI (n + k) + nI 1)))) = _ ∧ _
      rw [if_neg (fun h9 => by have := (q_le (by omega) (by omega)).mp h9; omega), q_jix (by omega) (by omega), q_clamp (by omega), nI_add, nI_add, q_sub (by omega), q_sbit hx (by omega), lN_i]
      obtain ⟨rw', e, r⟩ := ih z (k + 1) (upd rw (n + k) (nI (x / 2 ^ (63 - k) % 2))) (by omega) (by omega) (fun i hi => by
        by_cases a : i = n + k
        · subst a
          rw [pk_us]
          unfold q_ap q_ms
          rw [if_neg (by omega), if_pos (by omega), Nat.div_div_eq_div_mul, ← Nat.pow_add, show 64 - N + (N - 1 - (n + k - n)) = 63 - k by omega]
        · rw [pk_un a]
          exact h i (by omega))
      exact ⟨rw', e, r⟩
/-! bits -/
theorem q_orB {X B : Nat} (hX : X < 9223372036854775808) (hB : B ≤ 1) : (lN X <<< ((nI 1).toInt64 &&& 63)) ||| lN B = lN (2 * X + B) := by
  rw [q_lshl _ (by omega), wb_or (by omega) (by omega)]
  have h := Nat.two_pow_add_eq_or_of_lt (i := 1) (b := B) (by omega) X
  rw [Nat.pow_one, Nat.mul_comm X 2, ← h]
theorem q_bitsL {w : Nat → Int64} {rw : Nat → Int32} {f : Nat → Nat} {n : Nat} (h : q_row w f n) (hm : q_rm rw f n) (x1 : Int32) : ∀ (m z1 z2 k X : Nat), k + m = 64 → m < z1 → m < z2 → X < 2 ^ k → ∃ r, jL_X1_bits_5 w (nI n) x1 z1 (lN X) (nI k) = some r ∧ jL_X2_bits_10 (nI 0) rw (nI n) x1 z2 (lN X) (nI k) = some (r, nI 0) := by
  have hn := h.2.2.1
  intro m
  induction m with
  | zero =>
    intro z1 z2 k X hk h1 h2 hX
    obtain ⟨z1, rfl⟩ : ∃ y, z1 = y + 1 := ⟨z1 - 1, by omega⟩
    obtain ⟨z2, rfl⟩ : ∃ y, z2 = y + 1 := ⟨z2 - 1, by omega⟩
    refine ⟨lN X, ?_, ?_⟩
    · show (if nI 64 ≤ nI k then some (lN X) else _) = _
      rw [if_pos ((q_le (by omega) (by omega)).mpr (by omega))]
    · show (if nI 64 ≤ nI k then some (lN X, nI 0) else _) = _
      rw [if_pos ((q_le (by omega) (by omega)).mpr (by omega))]
  | succ m ih =>
    intro z1 z2 k X hk h1 h2 hX
    obtain ⟨z1, rfl⟩ : ∃ y, z1 = y + 1 := ⟨z1 - 1, by omega⟩
    obtain ⟨z2, rfl⟩ : ∃ y, z2 = y + 1 := ⟨z2 - 1, by omega⟩
    have hXb : 2 ^ k ≤ 2 ^ 63 := Nat.pow_le_pow_right (by decide) (by omega)
    have hcl : ¬ nI 64 ≤ nI k := fun h9 => by have := (q_le (by omega) (by omega)).mp h9; omega
    have key : ∃ B, B ≤ 1 ∧ j_X0_bitAt w (nI n) (x1.toInt64 + (nI k).toInt64) = some (nI B) ∧ jL_X2_bits_10 (nI 0) rw (nI n) x1 (z2 + 1) (lN X) (nI k) = jL_X2_bits_10 (nI 0) rw (nI n) x1 z2 (lN (2 * X + B)) (nI (k + 1)) := by
      have eM : jL_X2_bits_10 (nI 0) rw (nI n) x1 (z2 + 1) (lN X) (nI k) = (if (x1.toInt64 + (nI k).toInt64) < (0 : Int64) then (jL_X2_bits_10 (nI 0) rw (nI n) x1 z2 ((lN 2 * lN X) + ((nI 0).toInt64)) (nI (k + 1))) else (if (nI n).toInt64 ≤ (x1.toInt64 + (nI k).toInt64) then (jL_X2_bits_10 (nI 0) rw (nI n) x1 z2 ((lN 2 * lN X) + ((nI 0).toInt64)) (nI (k + 1))) else (jix ((x1.toInt64 + (nI k).toInt64).toInt32) 4096 (jL_X2_bits_10 (nI 0) rw (nI n) x1 z2 ((lN 2 * lN X) + ((rw ((x1.toInt64 + (nI k).toInt64).toInt32).toNatClampNeg).toInt64)) (nI (k + 1)))))) := by
        show (if nI 64 ≤ nI k then some (lN X, nI 0) else _) = _
        rw [if_neg hcl, ← nI_add]
        rfl
      rw [eM]
      generalize x1.toInt64 + (nI k).toInt64 = y
      by_cases c : y < 0
      · refine ⟨0, by omega, q_bitAtNeg c, ?_⟩
        rw [if_pos c, q_i2l (by omega), lN_mul, lN_add]
      · obtain ⟨j, hj, rfl⟩ := q_posL c
        refine ⟨f j, h.2.2.2 j, q_bitAt h.1 h.2.1 h.2.2.1 hj, ?_⟩
        rw [if_neg c, q_i2l (show n < 2147483648 by omega)]
        by_cases c2 : n ≤ j
        · rw [if_pos ((q_lle (by omega) hj).mpr c2), h.2.1 j c2, q_i2l (by omega), lN_mul, lN_add]
        · have hfj := h.2.2.2 j
          rw [if_neg (fun h9 => c2 ((q_lle (by omega) hj).mp h9)), lN_i, q_jix (by omega) (by omega), q_clamp (by omega), hm j (by omega), q_i2l (by omega), lN_mul, lN_add]
    obtain ⟨B, hB, e1, e2⟩ := key
    have eC : jL_X1_bits_5 w (nI n) x1 (z1 + 1) (lN X) (nI k) = jL_X1_bits_5 w (nI n) x1 z1 (lN (2 * X + B)) (nI (k + 1)) := by
      show (if nI 64 ≤ nI k then some (lN X) else ((j_X0_bitAt w (nI n) (x1.toInt64 + (nI k).toInt64)).bind fun v502 => (jL_X1_bits_5 w (nI n) x1 z1 ((lN X <<< ((nI 1).toInt64 &&& 63)) ||| v502.toInt64) (nI k + nI 1)))) = _
      rw [if_neg hcl, e1, Option.bind_some, q_i2l (show B < 2147483648 by omega), q_orB (X := X) (by omega) hB, nI_add]
    rw [eC, e2]
    exact ih z1 z2 (k + 1) (2 * X + B) (by omega) (by omega) (by omega) (by rw [Nat.pow_succ]; omega)
/-! wipe -/
theorem q_fillL : ∀ (m z i : Nat) (w : Nat → Int64), i + m = 64 → m < z → (∀ j, j < i → w j = lN 0) → ∃ w', jL_J7_fill_d0a16_6 (lN 0) (nI 64) z (nI i) w = some w' ∧ ∀ j, j < 64 → w' j = lN 0 := by
  intro m
  induction m with
  | zero =>
    intro z i w hi hz h
    cases z with
    | zero => omega
    | succ z =>
      show ∃ w', (if nI 64 ≤ nI i then some w else _) = some w' ∧ _
      rw [if_pos ((q_le (by omega) (by omega)).mpr (by omega))]
      exact ⟨w, rfl, fun j hj => h j (by omega)⟩
  | succ m ih =>
    intro z i w hi hz h
    cases z with
    | zero => omega
    | succ z =>
      show ∃ w', (if nI 64 ≤ nI i then some w else (jix (nI i) 64 (jL_J7_fill_d0a16_6 (lN 0) (nI 64) z (nI i + nI 1) (vp_updL w (nI i).toNatClampNeg (lN 0))))) = some w' ∧ _
      rw [if_neg (fun h9 => by have := (q_le (by omega) (by omega)).mp h9; omega), q_jix (by omega) (by omega), q_clamp (by omega), nI_add]
      refine ih z (i + 1) _ (by omega) (by omega) (fun j hj => ?_)
      by_cases c : j = i
      · subst c
        rw [pk_uLs]
      · rw [pk_uLn c]
        exact h j (by omega)
theorem q_zero {w : Nat → Int64} (h : ∀ j, j < 64 → w j = lN 0) : q_row w (fun _ => 0) 0 := by
  refine ⟨fun i hi => ?_, fun _ _ => rfl, by omega, fun _ => by dsimp only; omega⟩
  unfold q_wb
  rw [h _ (by omega), q_un_lN (by omega)]
  simp
