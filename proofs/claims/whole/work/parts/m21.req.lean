/-! What there is: kinds, parameters, numbers, lengths; tables; lists. -/
theorem q_posI {a : Int32} (h : ¬ a < 0) : ∃ k, k < 2147483648 ∧ a = nI k := by
  rw [Int32.lt_iff_toInt_lt, Int32.toInt_zero] at h
  have h2 := Int32.toInt_lt a
  refine ⟨a.toInt.toNat, by omega, Int32.toInt_inj.mp ?_⟩
  rw [nI_toInt (by omega)]
  omega
theorem q_posL {a : Int64} (h : ¬ a < 0) : ∃ k, k < 9223372036854775808 ∧ a = lN k := by
  rw [Int64.lt_iff_toInt_lt, Int64.toInt_zero] at h
  have h2 := Int64.toInt_lt a
  refine ⟨a.toInt.toNat, by omega, Int64.toInt_inj.mp ?_⟩
  rw [pf_lI (by omega)]
  omega
theorem q_neglt {a : Int32} (h : a < 0) {m : Nat} (hm : m < 2147483648) : a < nI m := by
  rw [Int32.lt_iff_toInt_lt] at h ⊢
  rw [Int32.toInt_zero] at h
  rw [nI_toInt hm]
  omega
theorem q_negltL {a : Int64} (h : a < 0) {m : Nat} (hm : m < 9223372036854775808) : a < lN m := by
  rw [Int64.lt_iff_toInt_lt] at h ⊢
  rw [Int64.toInt_zero] at h
  rw [pf_lI hm]
  omega
theorem q_numb (a : Int64) : (∃ n, a = lN n ∧ q_num n ∧ j_X1_requireNumber a = some (some ()) ∧ j_X2_noNumber a = some (nI 0)) ∨ (j_X1_requireNumber a = some none ∧ j_X2_noNumber a = some (nI 1)) := by
  unfold j_X1_requireNumber j_X2_noNumber
  by_cases h : a < 0
  · refine Or.inr ?_
    have := q_negltL h (m := 1) (by omega)
    rw [q_l1, if_pos this, if_pos this]
    exact ⟨rfl, rfl⟩
  · obtain ⟨k, hk, rfl⟩ := q_posL h
    rw [q_l1, q_lM]
    by_cases c1 : k < 1
    · refine Or.inr ?_
      have := (q_llt hk (b := 1) (by omega)).mpr c1
      rw [if_pos this, if_pos this]
      exact ⟨rfl, rfl⟩
    · have c1' : ¬ lN k < lN 1 := fun h9 => c1 ((q_llt hk (by omega)).mp h9)
      rw [if_neg c1', if_neg c1']
      by_cases c2 : k ≤ 4611686018427387904
      · have c2' := (q_lle hk (b := 4611686018427387904) (by omega)).mpr c2
        rw [if_pos c2', if_pos c2']
        exact Or.inl ⟨k, rfl, ⟨by omega, c2⟩, rfl, rfl⟩
      · have c2' : ¬ lN k ≤ lN 4611686018427387904 := fun h9 => c2 ((q_lle hk (by omega)).mp h9)
        rw [if_neg c2', if_neg c2']
        exact Or.inr ⟨rfl, rfl⟩
theorem q_isC {k lo hi : Nat} (hk : k ≤ 7) (h1 : j_X1_leastParameter (nI k) = some (nI lo)) (h2 : j_X1_greatestParameter (nI k) = some (nI hi)) (hlo : lo < 2147483648) (hhi : hi < 2147483648) {p : Nat} (hp : p < 2147483648) : j_X1_isCode (nI k) (nI p) = some (if lo ≤ p ∧ p ≤ hi then nI 1 else nI 0) := by
  unfold j_X1_isCode
  rw [q_i0, q_i7, if_neg (fun h9 => by have := (q_lt (by omega) (by omega)).mp h9; omega), if_neg (fun h9 => by have := (q_lt (by omega) (by omega)).mp h9; omega), h1, h2, Option.bind_some, Option.bind_some]
  by_cases c1 : p < lo
  · rw [if_pos ((q_lt hp hlo).mpr c1), if_neg (show ¬ (lo ≤ p ∧ p ≤ hi) by omega)]
  · rw [if_neg (fun h9 => c1 ((q_lt hp hlo).mp h9))]
    by_cases c2 : hi < p
    · rw [if_pos ((q_lt hhi hp).mpr c2), if_neg (show ¬ (lo ≤ p ∧ p ≤ hi) by omega)]
    · rw [if_neg (fun h9 => c2 ((q_lt hhi hp).mp h9)), if_pos (show lo ≤ p ∧ p ≤ hi by omega)]
      rfl
theorem q_isN {k lo : Nat} (hk : k ≤ 7) (h1 : j_X1_leastParameter (nI k) = some (nI lo)) (hlo : lo < 2147483648) {a : Int32} (ha : a < 0) : j_X1_isCode (nI k) a = some (nI 0) := by
  unfold j_X1_isCode
  rw [q_i0, q_i7, if_neg (fun h9 => by have := (q_lt (by omega) (by omega)).mp h9; omega), if_neg (fun h9 => by have := (q_lt (by omega) (by omega)).mp h9; omega), h1, Option.bind_some, if_pos (q_neglt ha hlo)]
theorem q_lpar {k : Nat} (hk : k ≤ 7) : j_X1_leastParameter (nI k) = some (nI (if k = 5 ∨ k = 7 then 1 else 0)) := by
  revert k
  decide +kernel
theorem q_gpar {k : Nat} (hk : k ≤ 7) : j_X1_greatestParameter (nI k) = some (nI (if k = 5 then 1000000 else if k = 6 then 40 else if k = 7 then 16 else 0)) := by
  revert k
  decide +kernel
theorem q_noK4 {k : Nat} (hk : k < 5) (a : Int32) : j_X2_noKind (nI k) a = if a = nI 0 then some (nI 0) else some (nI 1) := by
  unfold j_X2_noKind
  rw [q_i0, q_i7, q_i5, if_neg (fun h9 => by have := (q_lt (by omega) (by omega)).mp h9; omega), if_pos ((q_le (by omega) (by omega)).mpr (by omega)), if_neg (fun h9 => by have := (q_le (by omega) (by omega)).mp h9; omega)]
  rfl
theorem q_noK5 (a : Int32) : j_X2_noKind (nI 5) a = if a < nI 1 then some (nI 1) else if a ≤ nI 1000000 then some (nI 0) else some (nI 1) := by
  unfold j_X2_noKind
  rw [if_neg (show ¬ nI 5 < (0 : Int32) by decide), if_pos (show nI 5 ≤ (7 : Int32) by decide), if_pos (show (5 : Int32) ≤ nI 5 by decide), if_pos (show nI 5 = (5 : Int32) by decide)]
  rfl
theorem q_noK6 (a : Int32) : j_X2_noKind (nI 6) a = if a < nI 0 then some (nI 1) else if a ≤ nI 40 then some (nI 0) else some (nI 1) := by
  unfold j_X2_noKind
  rw [if_neg (show ¬ nI 6 < (0 : Int32) by decide), if_pos (show nI 6 ≤ (7 : Int32) by decide), if_pos (show (5 : Int32) ≤ nI 6 by decide), if_neg (show ¬ nI 6 = (5 : Int32) by decide), if_pos (show nI 6 = (6 : Int32) by decide)]
  rfl
theorem q_noK7 (a : Int32) : j_X2_noKind (nI 7) a = if a < nI 1 then some (nI 1) else if a ≤ nI 16 then some (nI 0) else some (nI 1) := by
  unfold j_X2_noKind
  rw [if_neg (show ¬ nI 7 < (0 : Int32) by decide), if_pos (show nI 7 ≤ (7 : Int32) by decide), if_pos (show (5 : Int32) ≤ nI 7 by decide), if_neg (show ¬ nI 7 = (5 : Int32) by decide), if_neg (show ¬ nI 7 = (6 : Int32) by decide)]
  rfl
theorem q_rng {p lo hi : Nat} (hp : p < 2147483648) (hlo : lo < 2147483648) (hhi : hi < 2147483648) : (if nI p < nI lo then some (nI 1) else if nI p ≤ nI hi then some (nI 0) else some (nI 1)) = some (if lo ≤ p ∧ p ≤ hi then nI 0 else nI 1) := by
  by_cases c1 : p < lo
  · rw [if_pos ((q_lt hp hlo).mpr c1), if_neg (show ¬ (lo ≤ p ∧ p ≤ hi) by omega)]
  · rw [if_neg (fun h9 => c1 ((q_lt hp hlo).mp h9))]
    by_cases c2 : p ≤ hi
    · rw [if_pos ((q_le hp hhi).mpr c2), if_pos (show lo ≤ p ∧ p ≤ hi by omega)]
    · rw [if_neg (fun h9 => c2 ((q_le hp hhi).mp h9)), if_neg (show ¬ (lo ≤ p ∧ p ≤ hi) by omega)]
theorem q_codeP {k lo hi p : Nat} (h : (if lo ≤ p ∧ p ≤ hi then nI 1 else nI 0) = (if lo ≤ p ∧ p ≤ hi then nI 1 else nI 0)) (hI : j_X1_isCode (nI k) (nI p) = some (if lo ≤ p ∧ p ≤ hi then nI 1 else nI 0)) (hM : j_X2_noKind (nI k) (nI p) = some (if lo ≤ p ∧ p ≤ hi then nI 0 else nI 1)) (ho : lo ≤ p ∧ p ≤ hi → q_ok k p) : (∃ k' p', nI k = nI k' ∧ nI p = nI p' ∧ q_ok k' p' ∧ j_X1_isCode (nI k) (nI p) = some (nI 1) ∧ j_X2_noKind (nI k) (nI p) = some (nI 0)) ∨ (j_X1_isCode (nI k) (nI p) = some (nI 0) ∧ j_X2_noKind (nI k) (nI p) = some (nI 1)) := by
  by_cases c : lo ≤ p ∧ p ≤ hi
  · rw [if_pos c] at hI hM
    exact Or.inl ⟨k, p, rfl, rfl, ho c, hI, hM⟩
  · rw [if_neg c] at hI hM
    exact Or.inr ⟨hI, hM⟩
theorem q_code (a1 a2 : Int32) : (∃ k p, a1 = nI k ∧ a2 = nI p ∧ q_ok k p ∧ j_X1_isCode a1 a2 = some (nI 1) ∧ j_X2_noKind a1 a2 = some (nI 0)) ∨ (j_X1_isCode a1 a2 = some (nI 0) ∧ j_X2_noKind a1 a2 = some (nI 1)) := by
  by_cases h1 : a1 < 0
  · refine Or.inr ?_
    unfold j_X1_isCode j_X2_noKind
    rw [if_pos h1, if_pos h1]
    exact ⟨rfl, rfl⟩
  · obtain ⟨k, hk, rfl⟩ := q_posI h1
    by_cases h7 : k ≤ 7
    · by_cases h2 : a2 < 0
      · refine Or.inr ⟨?_, ?_⟩
        · refine q_isN h7 (q_lpar h7) ?_ h2
          split <;> omega
        · rcases (show k < 5 ∨ k = 5 ∨ k = 6 ∨ k = 7 by omega) with c | rfl | rfl | rfl
          · rw [q_noK4 c, if_neg (fun h9 => by rw [h9] at h2; exact absurd h2 (by decide))]
          · rw [q_noK5, if_pos (q_neglt h2 (by omega))]
          · rw [q_noK6, if_pos (q_neglt h2 (by omega))]
          · rw [q_noK7, if_pos (q_neglt h2 (by omega))]
      · obtain ⟨p, hp, rfl⟩ := q_posI h2
        rcases (show k < 5 ∨ k = 5 ∨ k = 6 ∨ k = 7 by omega) with c | rfl | rfl | rfl
        · have e1 := q_lpar h7
          have e2 := q_gpar h7
          rw [if_neg (by omega)] at e1
          rw [if_neg (by omega), if_neg (by omega), if_neg (by omega)] at e2
          refine q_codeP rfl (q_isC h7 e1 e2 (by omega) (by omega) hp) ?_ (fun h => ⟨h7, fun _ => by omega, fun _ => by omega, fun _ => by omega, fun _ => by omega⟩)
          rw [q_noK4 c]
          by_cases d : p = 0
          · rw [if_pos (by rw [d]), if_pos (by omega)]
          · rw [if_neg (fun h9 => d ((q_eq hp (by omega)).mp h9)), if_neg (by omega)]
        · exact q_codeP (lo := 1) (hi := 1000000) rfl (q_isC (lo := 1) (hi := 1000000) h7 rfl rfl (by omega) (by omega) hp) (by rw [q_noK5, q_rng hp (by omega) (by omega)]) (fun h => ⟨h7, fun _ => by omega, fun _ => h, fun _ => by omega, fun _ => by omega⟩)
        · exact q_codeP (lo := 0) (hi := 40) rfl (q_isC (lo := 0) (hi := 40) h7 rfl rfl (by omega) (by omega) hp) (by rw [q_noK6, q_rng hp (by omega) (by omega)]) (fun h => ⟨h7, fun _ => by omega, fun _ => by omega, fun _ => h.2, fun _ => by omega⟩)
        · exact q_codeP (lo := 1) (hi := 16) rfl (q_isC (lo := 1) (hi := 16) h7 rfl rfl (by omega) (by omega) hp) (by rw [q_noK7, q_rng hp (by omega) (by omega)]) (fun h => ⟨h7, fun _ => by omega, fun _ => by omega, fun _ => by omega, fun _ => h⟩)
    · refine Or.inr ?_
      unfold j_X1_isCode j_X2_noKind
      rw [if_neg h1, if_neg h1, q_i7, if_pos ((q_lt (by omega) hk).mpr (by omega)), if_neg (fun h9 => h7 ((q_le hk (by omega)).mp h9))]
      exact ⟨rfl, rfl⟩
theorem q_reqC {a1 a2 : Int32} (h : j_X1_isCode a1 a2 = some (nI 1)) : j_X1_requireCode a1 a2 = some (some ()) := by
  unfold j_X1_requireCode
  rw [h, Option.bind_some, if_neg (by decide)]
theorem q_reqN {a1 a2 : Int32} (h : j_X1_isCode a1 a2 = some (nI 0)) : j_X1_requireCode a1 a2 = some none := by
  unfold j_X1_requireCode
  rw [h, Option.bind_some, if_pos (show nI 0 = (0 : Int32) from rfl)]
theorem q_leng (a : Int32) (m : Nat) (hm : m < 2147483648) : (∃ L, a = nI L ∧ L ≤ m ∧ ¬ a < 0 ∧ a ≤ nI m) ∨ (a < 0 ∨ (¬ a < 0 ∧ ¬ a ≤ nI m)) := by
  by_cases h : a < 0
  · exact Or.inr (Or.inl h)
  · obtain ⟨k, hk, rfl⟩ := q_posI h
    by_cases c : k ≤ m
    · exact Or.inl ⟨k, rfl, c, h, (q_le hk hm).mpr c⟩
    · exact Or.inr (Or.inr ⟨h, fun h9 => c ((q_le hk hm).mp h9)⟩)
/-! the tables -/
theorem q_init1L : ∀ (m z i : Nat) (fb : Nat → Int64), 2 ≤ i → i + m = 89 → m < z → (∀ j, j < i → fb j = lN (q_F j)) → ∃ fb', jL_X1_init_54 z (nI i) fb = some fb' ∧ ∀ j, j < 89 → fb' j = lN (q_F j) := by
  intro m
  induction m with
  | zero =>
    intro z i fb h2 hi hz h
    cases z with
    | zero => omega
    | succ z =>
      show ∃ fb', (if nI 89 ≤ nI i then some fb else _) = some fb' ∧ _
      rw [if_pos ((q_le (by omega) (by omega)).mpr (by omega))]
      exact ⟨fb, rfl, fun j hj => h j (by omega)⟩
  | succ m ih =>
    intro z i fb h2 hi hz h
    cases z with
    | zero => omega
    | succ z =>
      show ∃ fb', (if nI 89 ≤ nI i then some fb else (jix (nI i - nI 1) 89 (jix (nI i - nI 2) 89 (jix (nI i) 89 (jL_X1_init_54 z (nI i + nI 1) (vp_updL fb (nI i).toNatClampNeg ((fb (nI i - nI 1).toNatClampNeg) + (fb (nI i - nI 2).toNatClampNeg)))))))) = some fb' ∧ _
      rw [if_neg (fun h9 => by have := (q_le (by omega) (by omega)).mp h9; omega), q_sub (by omega), q_sub (by omega), q_jix (by omega) (by omega), q_jix (by omega) (by omega), q_jix (by omega) (by omega), q_clamp (by omega), q_clamp (by omega), q_clamp (by omega), nI_add, h (i - 1) (by omega), h (i - 2) (by omega), lN_add]
      refine ih z (i + 1) _ (by omega) (by omega) (by omega) (fun j hj => ?_)
      by_cases c : j = i
      · subst c
        rw [pk_uLs]
        have e := q_F_rec (j - 2)
        rw [show j - 2 + 2 = j by omega, show j - 2 + 1 = j - 1 by omega] at e
        rw [e]
      · rw [pk_uLn c]
        exact h j (by omega)
theorem q_init1 : ∃ fb, j_X1_init = some fb ∧ ∀ j, j < 89 → fb j = lN (q_F j) := by
  unfold j_X1_init
  rw [q_i0, q_i1, q_jix (by omega) (by omega), q_jix (by omega) (by omega), q_i2, q_clamp (by omega), q_clamp (by omega)]
  refine q_init1L 87 jF 2 _ (by omega) (by omega) (by unfold jF; omega) (fun j hj => ?_)
  rcases (show j = 0 ∨ j = 1 by omega) with rfl | rfl
  · rw [pk_uLn (by omega), pk_uLs]; rfl
  · rw [pk_uLs]; rfl
theorem q_init2L : ∀ (m z i : Nat) (sm : Nat → Int64), 1 ≤ i → i + m = 91 → m < z → (∀ j, 1 ≤ j → j < i + 1 → sm j = lN (q_F (j - 1))) → ∃ sm', jL_X2_init_54 z (nI i) sm = some sm' ∧ ∀ j, 1 ≤ j → j < 92 → sm' j = lN (q_F (j - 1)) := by
  intro m
  induction m with
  | zero =>
    intro z i sm h2 hi hz h
    cases z with
    | zero => omega
    | succ z =>
      show ∃ sm', (if nI 91 ≤ nI i then some sm else _) = some sm' ∧ _
      rw [if_pos ((q_le (by omega) (by omega)).mpr (by omega))]
      exact ⟨sm, rfl, fun j hj hj2 => h j hj (by omega)⟩
  | succ m ih =>
    intro z i sm h2 hi hz h
    cases z with
    | zero => omega
    | succ z =>
      show ∃ sm', (if nI 91 ≤ nI i then some sm else (if nI i = nI 1 then (jix (nI i + nI 1) 92 (jL_X2_init_54 z (nI i + nI 1) (vp_updL sm (nI i + nI 1).toNatClampNeg (lN 2)))) else (jix (nI i) 92 (jix (nI i - nI 1) 92 (jix (nI i + nI 1) 92 (jL_X2_init_54 z (nI i + nI 1) (vp_updL sm (nI i + nI 1).toNatClampNeg ((sm (nI i).toNatClampNeg) + (sm (nI i - nI 1).toNatClampNeg))))))))) = some sm' ∧ _
      rw [if_neg (fun h9 => by have := (q_le (by omega) (by omega)).mp h9; omega), nI_add]
      by_cases c1 : i = 1
      · subst c1
        rw [if_pos rfl, q_jix (by omega) (by omega), q_clamp (by omega)]
        refine ih z 2 _ (by omega) (by omega) (by omega) (fun j hj hj2 => ?_)
        by_cases c : j = 2
        · subst c
          rw [pk_uLs]
          rfl
        · rw [pk_uLn c]
          exact h j hj (by omega)
      · rw [if_neg (fun h9 => c1 ((q_eq (by omega) (by omega)).mp h9)), q_sub (by omega), q_jix (by omega) (by omega), q_jix (by omega) (by omega), q_jix (by omega) (by omega), q_clamp (by omega), q_clamp (by omega), q_clamp (by omega), h i (by omega) (by omega), h (i - 1) (by omega) (by omega), lN_add]
        refine ih z (i + 1) _ (by omega) (by omega) (by omega) (fun j hj hj2 => ?_)
        by_cases c : j = i + 1
        · subst c
          rw [pk_uLs]
          have e := q_F_rec (i - 2)
          rw [show i - 2 + 2 = i + 1 - 1 by omega, show i - 2 + 1 = i - 1 by omega, show i - 2 = i - 1 - 1 by omega] at e
          rw [e]
        · rw [pk_uLn c]
          exact h j hj (by omega)
theorem q_init2 : ∃ sm, j_X2_init = some sm ∧ ∀ j, 1 ≤ j → j < 92 → sm j = lN (q_F (j - 1)) := by
  unfold j_X2_init
  rw [q_i0, q_i1, q_jix (by omega) (by omega), q_jix (by omega) (by omega), q_clamp (by omega), q_clamp (by omega)]
  refine q_init2L 90 jF 1 _ (by omega) (by omega) (by unfold jF; omega) (fun j hj hj2 => ?_)
  rw [show j = 1 by omega, pk_uLs]
  rfl
/-! lists -/
def q_li (li ml : Nat → Int64) (g : Nat → Nat) (d : Nat) : Prop := ∀ i, i < d → q_num (g i) ∧ li i = lN (g i) ∧ ml i = lN (g i)
def q_sat (k p : Nat) (g : Nat → Nat) : Nat → Nat
  | 0 => 0
  | i + 1 => if q_sat k p g i + q_len k p (g i) ≤ 4611686018427387904 then q_sat k p g i + q_len k p (g i) else 4611686018427387904
theorem q_sat_le (k p : Nat) (g : Nat → Nat) : ∀ i, q_sat k p g i ≤ 4611686018427387904 := by
  intro i
  cases i with
  | zero => show 0 ≤ _; omega
  | succ i =>
    show (if q_sat k p g i + q_len k p (g i) ≤ 4611686018427387904 then q_sat k p g i + q_len k p (g i) else 4611686018427387904) ≤ _
    split <;> omega
theorem q_sat_M {k p : Nat} {g : Nat → Nat} : ∀ (m i : Nat), q_sat k p g i = 4611686018427387904 → q_sat k p g (i + m) = 4611686018427387904 := by
  intro m
  induction m with
  | zero => intro i h; exact h
  | succ m ih =>
    intro i h
    have e := ih i h
    show (if q_sat k p g (i + m) + q_len k p (g (i + m)) ≤ 4611686018427387904 then q_sat k p g (i + m) + q_len k p (g (i + m)) else 4611686018427387904) = _
    rw [e]
    split <;> omega
theorem q_totC {fb : Nat → Int64} (hfb : ∀ i, i < 89 → fb i = lN (q_F i)) {li ml : Nat → Int64} {g : Nat → Nat} {k p d : Nat} (ho : q_ok k p) (hd : d ≤ 100) (hli : q_li li ml g d) : ∀ (m z i : Nat), i + m = d → m < z → jL_X1_listLength_5 li (nI d) fb (nI k) (nI p) z (lN (q_sat k p g i)) (nI i) = some (lN (q_sat k p g d)) := by
  intro m
  induction m with
  | zero =>
    intro z i hi hz
    cases z with
    | zero => omega
    | succ z =>
      show (if nI d ≤ nI i then some (lN (q_sat k p g i)) else _) = _
      rw [if_pos ((q_le (by omega) (by omega)).mpr (by omega)), show i = d by omega]
  | succ m ih =>
    intro z i hi hz
    cases z with
    | zero => omega
    | succ z =>
      obtain ⟨hn, e1, e2⟩ := hli i (by omega)
      have hlen := q_len_le ho hn
      have hnn := hn.2
      have hs := q_sat_le k p g i
      have es : q_sat k p g (i + 1) = if q_sat k p g i + q_len k p (g i) ≤ 4611686018427387904 then q_sat k p g i + q_len k p (g i) else 4611686018427387904 := rfl
      show (if nI d ≤ nI i then some (lN (q_sat k p g i)) else (jix (nI i) 100 ((j_X1_codewordLength fb (nI k) (nI p) (li (nI i).toNatClampNeg)).bind fun v502 => (if v502 ≤ (lN 4611686018427387904 - lN (q_sat k p g i)) then (jL_X1_listLength_5 li (nI d) fb (nI k) (nI p) z (lN (q_sat k p g i) + v502) (nI i + nI 1)) else (some (lN 4611686018427387904)))))) = _
      rw [if_neg (fun h9 => by have := (q_le (by omega) (by omega)).mp h9; omega), q_jix (by omega) (by omega), q_clamp (by omega), e1, q_lenC hfb ho hn, Option.bind_some, q_lsub hs, nI_add, lN_add]
      by_cases c : q_sat k p g i + q_len k p (g i) ≤ 4611686018427387904
      · rw [if_pos ((q_lle (by omega) (by omega)).mpr (by omega))]
        rw [if_pos c] at es
        rw [← es]
        exact ih z (i + 1) (by omega) (by omega)
      · rw [if_neg (fun h9 => by have := (q_lle (by omega) (by omega)).mp h9; omega)]
        rw [if_neg c] at es
        have e3 := q_sat_M m (i + 1) es
        rw [show i + 1 + m = d by omega] at e3
        rw [e3]
theorem q_totM {sm : Nat → Int64} (hsm : ∀ i, 1 ≤ i → i < 92 → sm i = lN (q_F (i - 1))) {li ml : Nat → Int64} {g : Nat → Nat} {k p d : Nat} (ho : q_ok k p) (hd : d ≤ 100) (hli : q_li li ml g d) : ∀ (m z i : Nat), i + m = d → m < z → jL_X2_totalOf_5 ml (nI d) sm (nI k) (nI p) z (lN (q_sat k p g i)) (nI i) = some (lN (q_sat k p g d)) := by
  intro m
  induction m with
  | zero =>
    intro z i hi hz
    cases z with
    | zero => omega
    | succ z =>
      show (if nI d ≤ nI i then some (lN (q_sat k p g i)) else _) = _
      rw [if_pos ((q_le (by omega) (by omega)).mpr (by omega)), show i = d by omega]
  | succ m ih =>
    intro z i hi hz
    cases z with
    | zero => omega
    | succ z =>
      obtain ⟨hn, e1, e2⟩ := hli i (by omega)
      have hlen := q_len_le ho hn
      have hnn := hn.2
      have hs := q_sat_le k p g i
      have es : q_sat k p g (i + 1) = if q_sat k p g i + q_len k p (g i) ≤ 4611686018427387904 then q_sat k p g i + q_len k p (g i) else 4611686018427387904 := rfl
      show (if nI d ≤ nI i then some (lN (q_sat k p g i)) else (jix (nI i) 100 ((j_X2_lengthOf sm (nI k) (nI p) (ml (nI i).toNatClampNeg)).bind fun v502 => (if v502 ≤ (lN 4611686018427387904 - lN (q_sat k p g i)) then (jL_X2_totalOf_5 ml (nI d) sm (nI k) (nI p) z (lN (q_sat k p g i) + v502) (nI i + nI 1)) else (jL_X2_totalOf_5 ml (nI d) sm (nI k) (nI p) z (lN 4611686018427387904) (nI i + nI 1)))))) = _
      rw [if_neg (fun h9 => by have := (q_le (by omega) (by omega)).mp h9; omega), q_jix (by omega) (by omega), q_clamp (by omega), e2, q_lenM hsm ho hn, Option.bind_some, q_lsub hs, nI_add, lN_add]
      by_cases c : q_sat k p g i + q_len k p (g i) ≤ 4611686018427387904
      · rw [if_pos ((q_lle (by omega) (by omega)).mpr (by omega))]
        rw [if_pos c] at es
        rw [← es]
        exact ih z (i + 1) (by omega) (by omega)
      · rw [if_neg (fun h9 => by have := (q_lle (by omega) (by omega)).mp h9; omega)]
        rw [if_neg c] at es
        rw [← es]
        exact ih z (i + 1) (by omega) (by omega)
theorem q_listLength {fb : Nat → Int64} (hfb : ∀ i, i < 89 → fb i = lN (q_F i)) {li ml : Nat → Int64} {g : Nat → Nat} {k p d : Nat} (ho : q_ok k p) (hd : d ≤ 100) (hli : q_li li ml g d) : j_X1_listLength li (nI d) fb (nI k) (nI p) = some (lN (q_sat k p g d)) := by
  unfold j_X1_listLength
  rw [q_l0, q_i0]
  exact q_totC hfb ho hd hli d jF 0 (by omega) (by unfold jF; omega)
theorem q_totalOf {sm : Nat → Int64} (hsm : ∀ i, 1 ≤ i → i < 92 → sm i = lN (q_F (i - 1))) {li ml : Nat → Int64} {g : Nat → Nat} {k p d : Nat} (ho : q_ok k p) (hd : d ≤ 100) (hli : q_li li ml g d) : j_X2_totalOf ml (nI d) sm (nI k) (nI p) = some (lN (q_sat k p g d)) := by
  unfold j_X2_totalOf
  rw [q_l0, q_i0]
  exact q_totM hsm ho hd hli d jF 0 (by omega) (by unfold jF; omega)
