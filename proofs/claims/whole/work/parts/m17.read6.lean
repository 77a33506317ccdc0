/-! Reading: kind 7 joined; all kinds. -/
theorem q_doom {rw : Nat → Int32} {f : Nat → Nat} {n p : Nat} (hm : q_rm rw f n) (hf : ∀ i, f i ≤ 1) (hn : n ≤ 4096) (hp1 : 1 ≤ p) (hp : p ≤ 16) : ∀ (m z c H : Nat) (x2 : Int64), c + m = n → m + 1 < z → 62 ≤ H → H ≤ 116 → ∃ x y, jL_X2_readGroups_8 rw (nI n) (nI p) z x2 (nI H) (nI 1) (nI c) (nI 0) = some (x, y, nI 1) := by
  intro m
  induction m using Nat.strongRecOn with
  | _ m ih =>
    intro z c H x2 hc hz hH1 hH2
    obtain ⟨z, rfl⟩ : ∃ y, z = y + 2 := ⟨z - 2, by omega⟩
    by_cases c1 : c + 1 + p ≤ n
    · rw [q_gs hm hf hn hp c1]
      have hv := q_val_lt hf (c + 1) p
      have hpw : 2 ^ p ≤ 2 ^ 16 := Nat.pow_le_pow_right (by decide) hp
      have hfc := hf c
      by_cases g : q_val f (c + 1) p = 0
      · rw [g]
        rcases (show f c = 0 ∨ f c = 1 by omega) with b | b
        · rw [b]
          obtain ⟨x, e⟩ := q_51z (rw := rw) (n := n) (p := p) (z := z) (H := H) (x2 := x2) (fr := nI (c + 1 + p)) (by omega) (by omega)
          exact ⟨x, _, e⟩
        · rw [b]
          have e : ∃ H', 62 ≤ H' ∧ H' ≤ 116 ∧ jS_X2_readGroups_51 rw (nI n) (nI p) (jL_X2_readGroups_8 rw (nI n) (nI p) (z + 1)) x2 (nI H) (nI 1) (lN 0) (nI (c + 1 + p)) (nI 0) = jL_X2_readGroups_8 rw (nI n) (nI p) (z + 1) x2 (nI H') (nI 1) (nI (c + 1 + p)) (nI 0) := by
            unfold jS_X2_readGroups_51 jS_X2_readGroups_75 jS_X2_readGroups_106 jS_X2_readGroups_131 jS_X2_readGroups_148
            rw [if_neg (show ¬ nI 1 = (0 : Int32) by decide), if_pos (show lN 0 ≤ (0 : Int64) by decide), if_pos (show lN 0 ≤ (0 : Int64) by decide), q_i100, nI_add]
            by_cases d : H ≤ 100
            · rw [if_pos ((q_le (by omega) (by omega)).mpr d)]
              exact ⟨H + p, by omega, by omega, rfl⟩
            · rw [if_neg (fun h9 => d ((q_le (by omega) (by omega)).mp h9))]
              exact ⟨H, by omega, by omega, rfl⟩
          obtain ⟨H', a1, a2, e⟩ := e
          rw [e]
          exact ih (n - (c + 1 + p)) (by omega) (z + 1) (c + 1 + p) H' x2 (by omega) (by omega) a1 a2
      · obtain ⟨x, e⟩ := q_51b (rw := rw) (n := n) (p := p) (z := z) (H := H) (G := q_val f (c + 1) p) (x2 := x2) (x5 := nI (f c)) (fr := nI (c + 1 + p)) (by omega) (by omega) (by omega) (by
          by_cases d : 62 < H
          · exact Or.inl d
          · have e : H = 62 := by omega
            subst e
            exact Or.inr (by omega))
        exact ⟨x, _, e⟩
    · exact q_gsN hm hf hn hp (by omega) (by omega)
theorem q_orAdd {V G H : Nat} (hV : V < 2 ^ H) (h : V + G * 2 ^ H < 9223372036854775808) : lN V ||| lN (G * 2 ^ H) = lN (V + G * 2 ^ H) := by
  rw [wb_or (by omega) (by omega), Nat.mul_comm, Nat.or_comm, ← Nat.two_pow_add_eq_or_of_lt hV, Nat.add_comm]
theorem q_grJ {w : Nat → Int64} {rw : Nat → Int32} {sm : Nat → Int64} {f : Nat → Nat} {n a p : Nat} (h : q_row w f n) (hm : q_rm rw f n) (hp1 : 1 ≤ p) (hp : p ≤ 16) : ∀ (m z1 z2 g c V : Nat), g + m = 62 → m < z1 → 5000 < z2 + g → V < 2 ^ (g * p) → g * p ≤ 77 → a ≤ c → c ≤ n → q_P n a rw sm (jL_X1_readGroups_5 w (nI n) (nI p) z1 (lN V) (nI g) (nI c)) (jL_X2_readGroups_8 rw (nI n) (nI p) z2 (lN V) (nI (g * p)) (nI 1) (nI c) (nI 0)) := by
  have hf := h.2.2.2
  have hn := h.2.2.1
  intro m
  induction m with
  | zero =>
    intro z1 z2 g c V hg hz1 hz2 hV hgp ha hc
    obtain ⟨z1, rfl⟩ : ∃ y, z1 = y + 1 := ⟨z1 - 1, by omega⟩
    have hgp2 : 62 * 1 ≤ g * p := Nat.mul_le_mul (by omega) hp1
    obtain ⟨x, y, e⟩ := q_doom hm hf hn hp1 hp (n - c) z2 c (g * p) (lN V) (by omega) (by omega) (by omega) (by omega)
    refine q_Pno ⟨-1, c, ?_, Or.inl rfl, by omega⟩ (Or.inl ⟨x, y, e⟩)
    rw [show g = 62 by omega, q_gc62]
  | succ m ih =>
    intro z1 z2 g c V hg hz1 hz2 hV hgp ha hc
    obtain ⟨z1, rfl⟩ : ∃ y, z1 = y + 1 := ⟨z1 - 1, by omega⟩
    by_cases c0 : 62 ≤ g * p
    · obtain ⟨x, y, e⟩ := q_doom hm hf hn hp1 hp (n - c) z2 c (g * p) (lN V) (by omega) (by omega) (by omega) (by omega)
      refine q_Pno ⟨-1, c + 1 + p, ?_, Or.inl rfl, by omega⟩ (Or.inl ⟨x, y, e⟩)
      rw [q_gcE h hp (by omega) (by omega), if_pos c0]
    · by_cases c1 : c + 1 + p ≤ n
      · obtain ⟨z2, rfl⟩ : ∃ y, z2 = y + 2 := ⟨z2 - 2, by omega⟩
        rw [q_gcE h hp (by omega) (by omega), if_neg c0, q_gs hm hf hn hp c1]
        have hv := q_val_lt hf (c + 1) p
        have hpw : 2 ^ p ≤ 2 ^ 16 := Nat.pow_le_pow_right (by decide) hp
        have hfc := hf c
        generalize q_val f (c + 1) p = G at hv ⊢
        by_cases c2 : G < 2 ^ (62 - g * p)
        · rw [if_pos c2]
          have h62 : 2 ^ (62 - g * p) * 2 ^ (g * p) = 4611686018427387904 := by rw [← Nat.pow_add, show 62 - g * p + g * p = 62 by omega]
          have h63 := Nat.mul_le_mul_right (2 ^ (g * p)) (Nat.succ_le_of_lt c2)
          rw [h62, Nat.succ_mul] at h63
          have hor := q_orAdd hV (G := G) (by omega)
          rw [hor]
          have hle := (q_sh6 (x := G) (p := g * p) (by omega)).mpr c2
          rcases (show f c = 0 ∨ f c = 1 by omega) with b | b
          · rw [if_pos b, b]
            by_cases c4 : G = 0
            · rw [if_pos c4]
              by_cases c5 : g = 0
              · rw [if_pos c5, q_51g (by omega) (by omega) (by omega) (by rw [c5, Nat.zero_mul]; omega) hle, q_gr0, q_l1, lN_add]
                exact q_Pok rfl rfl ⟨by omega, by omega⟩ (by omega) c1
              · rw [if_neg c5, c4]
                have hgp0 : 1 * 1 ≤ g * p := Nat.mul_le_mul (by omega) hp1
                obtain ⟨x, e⟩ := q_51z (rw := rw) (n := n) (p := p) (z := z2) (H := g * p) (x2 := lN V) (fr := nI (c + 1 + p)) (by omega) (by omega)
                exact q_Pno ⟨-1, c + 1 + p, rfl, Or.inl rfl, by omega⟩ (Or.inl ⟨x, _, e⟩)
            · rw [if_neg c4, q_51g (by omega) (by omega) (by omega) (by omega) hle, q_gr0, q_l1, lN_add]
              exact q_Pok rfl rfl ⟨by omega, by omega⟩ (by omega) c1
          · rw [if_neg (by omega), b, q_51g (by omega) (by omega) (by omega) (by omega) hle]
            rw [show g * p + p = (g + 1) * p by rw [Nat.succ_mul]]
            refine ih z1 (z2 + 1) (g + 1) (c + 1 + p) (V + G * 2 ^ (g * p)) (by omega) (by omega) (by omega) ?_ (by rw [Nat.succ_mul]; omega) (by omega) c1
            have h7 := Nat.mul_le_mul_right (2 ^ (g * p)) (Nat.succ_le_of_lt hv)
            rw [Nat.succ_mul, ← Nat.pow_add, show p + g * p = (g + 1) * p by rw [Nat.succ_mul]; omega] at h7
            omega
        · rw [if_neg c2]
          have h0 := Nat.two_pow_pos (62 - g * p)
          have hnle : ¬ G ≤ 4611686018427387903 / 2 ^ (g * p) := fun h9 => c2 ((q_sh6 (by omega)).mp h9)
          obtain ⟨x, e⟩ := q_51b (rw := rw) (n := n) (p := p) (z := z2) (H := g * p) (G := G) (x2 := lN V) (x5 := nI (f c)) (fr := nI (c + 1 + p)) (by omega) (by omega) (by omega) (Or.inr (by omega))
          exact q_Pno ⟨-1, c + 1 + p, rfl, Or.inl rfl, by omega⟩ (Or.inl ⟨x, _, e⟩)
      · obtain ⟨r, c', e, h1, h2⟩ := q_grAny h hp (m + 1) (z1 + 1) g c (lN V) hg (by omega) (by omega)
        obtain ⟨z2, rfl⟩ : ∃ y, z2 = y + 2 := ⟨z2 - 2, by omega⟩
        refine q_Pno ⟨r, c', e, ?_, by omega⟩ (Or.inl (q_gsN hm hf hn hp hc (by omega)))
        rcases h1 with h1 | h1
        · exact Or.inl h1
        · exact Or.inr (by omega)
theorem q_k7 {w : Nat → Int64} {rw : Nat → Int32} {fb sm : Nat → Int64} {f : Nat → Nat} {n a p : Nat} {fr no : Int32} (h : q_row w f n) (hm : q_rm rw f n) (ha : a ≤ n) (hp1 : 1 ≤ p) (hp : p ≤ 16) : q_rr n a (j_X1_readCodeword w (nI n) (nI a) fb (nI 7) (nI p)) (j_X2_reads rw (nI n) (nI a) sm fr no (nI 7) (nI p)) := by
  have eC : j_X1_readCodeword w (nI n) (nI a) fb (nI 7) (nI p) = (jL_X1_readGroups_5 w (nI n) (nI p) jF (lN 0) (nI 0) (nI a)).bind fun (v9, v10) => some (v9, v10) := by
    unfold j_X1_readCodeword
    rw [if_neg (by decide), if_neg (by decide), if_neg (by decide), if_neg (by decide), if_neg (by decide), if_neg (by decide), if_neg (by decide)]
    unfold j_X1_readGroups
    rw [q_l0, q_i0]
  have eM : j_X2_reads rw (nI n) (nI a) sm fr no (nI 7) (nI p) = (jL_X2_readGroups_8 rw (nI n) (nI p) jF (lN 0) (nI 0) (nI 1) (nI a) (nI 0)).bind fun (v19, v20, v21) => jS_X2_reads_196 rw (nI n) sm v19 (nI a) v20 v21 := by
    unfold j_X2_reads
    rw [if_neg (by decide), if_neg (by decide), if_neg (by decide), if_neg (by decide), if_neg (by decide), if_neg (by decide), if_neg (by decide)]
    unfold j_X2_readGroups
    rw [q_l0, q_i0, q_i1]
  rw [eC, eM]
  have := q_grJ (a := a) (sm := sm) h hm hp1 hp 62 jF jF 0 a 0 (by omega) (by unfold jF; omega) (by unfold jF; omega) (by rw [Nat.zero_mul]; decide) (by rw [Nat.zero_mul]; omega) (Nat.le_refl a) ha
  rw [Nat.zero_mul] at this
  exact this
theorem q_read {w : Nat → Int64} {rw : Nat → Int32} {fb sm : Nat → Int64} (hfb : ∀ i, i < 89 → fb i = lN (q_F i)) (hsm : ∀ i, 1 ≤ i → i < 92 → sm i = lN (q_F (i - 1))) {f : Nat → Nat} {n a k p : Nat} {fr no : Int32} (h : q_row w f n) (hm : q_rm rw f n) (ha : a ≤ n) (ho : q_ok k p) : q_rr n a (j_X1_readCodeword w (nI n) (nI a) fb (nI k) (nI p)) (j_X2_reads rw (nI n) (nI a) sm fr no (nI k) (nI p)) := by
  obtain ⟨k7, o1, o2, o3, o4⟩ := ho
  rcases (show k = 0 ∨ k = 1 ∨ k = 2 ∨ k = 3 ∨ k = 4 ∨ k = 5 ∨ k = 6 ∨ k = 7 by omega) with rfl | rfl | rfl | rfl | rfl | rfl | rfl | rfl
  · exact q_k0 h hm ha
  · exact q_k1 h hm ha
  · exact q_k2 h hm ha
  · exact q_k3 h hm ha
  · exact q_k4 hfb hsm h hm ha
  · exact q_k5 h hm ha (o2 rfl).1 (o2 rfl).2
  · exact q_k6 h hm ha (o3 rfl)
  · exact q_k7 h hm ha (o4 rfl).1 (o4 rfl).2
/-- one reading: the same answer, the same place behind it -/
theorem q_next1 {w : Nat → Int64} {rw : Nat → Int32} {fb sm : Nat → Int64} (hfb : ∀ i, i < 89 → fb i = lN (q_F i)) (hsm : ∀ i, 1 ≤ i → i < 92 → sm i = lN (q_F (i - 1))) {f : Nat → Nat} {n a k p : Nat} {cu fr no : Int32} (h : q_row w f n) (hm : q_rm rw f n) (ha : a ≤ n) (ho : q_ok k p) : (∃ v e, q_num v ∧ e ≤ n ∧ (∃ cu', j_X1_readNext w (nI n) (nI a) cu fb (nI k) (nI p) = some (lN v, nI e, cu')) ∧ ∃ fr' no', j_X2_reads rw (nI n) (nI a) sm fr no (nI k) (nI p) = some (lN v, nI e, fr', no')) ∨ ((∃ cu', j_X1_readNext w (nI n) (nI a) cu fb (nI k) (nI p) = some ((-1 : Int64), nI a, cu')) ∧ ∃ fr' no', j_X2_reads rw (nI n) (nI a) sm fr no (nI k) (nI p) = some ((-1 : Int64), nI a, fr', no')) := by
  have hn := h.2.2.1
  have hq := q_read (fr := fr) (no := no) hfb hsm h hm ha ho
  unfold j_X1_readNext
  rcases hq with ⟨v, e, hv, e1, e2, hC, hM⟩ | ⟨⟨r, c, hC, hr⟩, fr', no', hM⟩
  · refine Or.inl ⟨v, e, hv, e2, ⟨nI e, ?_⟩, _, _, hM⟩
    rw [hC, Option.bind_some]
    show (if lN v = (-1 : Int64) then _ else (if nI e ≤ nI n then some (lN v, nI e, nI e) else _)) = _
    rw [if_neg (q_neg1 (by have := hv.2; omega)), if_pos ((q_le (by omega) (by omega)).mpr e2)]
  · refine Or.inr ⟨⟨c, ?_⟩, _, _, hM⟩
    rw [hC, Option.bind_some]
    show (if r = (-1 : Int64) then some ((-1 : Int64), nI a, c) else (if c ≤ nI n then _ else some ((-1 : Int64), nI a, c))) = _
    by_cases d : r = -1
    · rw [if_pos d]
    · rw [if_neg d]
      rcases hr with hr | ⟨c', h1, h2, rfl⟩
      · exact absurd hr d
      · rw [if_neg (fun h9 => by have := (q_le (by omega) (by omega)).mp h9; omega)]
