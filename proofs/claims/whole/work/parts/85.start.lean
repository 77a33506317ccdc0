theorem jWA_in : ∀ w ∈ jWA, w ∈ lw_tbl ∧ w.onTables = true := by decide +kernel
theorem jWB_in : ∀ w ∈ jWB, w ∈ lw_tbl ∧ w.onTables = true := by decide +kernel
theorem ls_str {s : State} {b : Nat} {k : Nat} {tx : String} (h1 : (Cond.stringRef RX1 k tx).before #[Value.ref b] s = true) (h2 : (Cond.exactly (.string RX1 k) "java/lang/String").before #[Value.ref b] s = true) : ∃ sa, vk_R RX1 k tx sa s := by
  obtain ⟨a, c, cell, k9, e1, -⟩ := Cond.exactly_spec (args := #[Value.ref b]) (first := s) (o := none) (s := s) (idx := []) h2
  exact ⟨a, vk_R.of h1 e1⟩
theorem ls_arr {s : State} {args : Array Value} {ty : FieldType} (h : (Cond.arrayClass ty).before args s = true) : ∃ cA : ClassId, ArrOfT s cA ty ∧ s.vm.findClass ("[" ++ ty.toString) = some cA := by
  obtain ⟨c, k, comp, e1, e2, e3⟩ := Cond.arrayClass_spec (args := args) (first := s) (o := none) (s := s) (idx := []) h
  exact ⟨c, fun n z => ⟨fun k h => (by cases h), k, e2, comp, e3⟩, e1⟩
theorem ls_xs {s : State} {b : Nat} (hts0 : ∀ w ∈ lw_tbl, w.before #[Value.ref b] s = true) (hgv : (Jvm.Cond.and given_1 narrow_1).before #[Value.ref b] s = true) : jXs (fun q : Nat => s.heap.size ≤ q) s := by
  have hs := flat_of_before _ hgv
  have hno : ∀ a : Nat, a < s.heap.size → ¬ (fun q : Nat => s.heap.size ≤ q) a := fun a h => Nat.not_le.mpr h
  exact ⟨vx_Zqof (hts0 (.laysStatic "java/lang/Throwable" "UNASSIGNED_STACK" "[Ljava/lang/StackTraceElement;") (by decide +kernel)) (hts0 (.initialized "java/lang/Throwable") (by decide +kernel)) (hs (.isRef (.static "java/lang/Throwable" "UNASSIGNED_STACK" "[Ljava/lang/StackTraceElement;")) (by decide +kernel)) hno,
    vx_Zqof (hts0 (.laysStatic "java/lang/Throwable" "SUPPRESSED_SENTINEL" "Ljava/util/List;") (by decide +kernel)) (hts0 (.initialized "java/lang/Throwable") (by decide +kernel)) (hs (.isRef (.static "java/lang/Throwable" "SUPPRESSED_SENTINEL" "Ljava/util/List;")) (by decide +kernel)) hno,
    ⟨ls_str (hts0 (.stringRef "SelfEndingCodes" 54 "1 to 64 bits can be pushed") (by decide +kernel)) (hs (.exactly (.string "SelfEndingCodes" 54) "java/lang/String") (by decide +kernel)), ls_str (hts0 (.stringRef "SelfEndingCodes" 76 "the row has no such place") (by decide +kernel)) (hs (.exactly (.string "SelfEndingCodes" 76) "java/lang/String") (by decide +kernel)), ls_str (hts0 (.stringRef "SelfEndingCodes" 82 "the list has no such number") (by decide +kernel)) (hs (.exactly (.string "SelfEndingCodes" 82) "java/lang/String") (by decide +kernel)), ls_str (hts0 (.stringRef "SelfEndingCodes" 91 "no such parameters to choose from") (by decide +kernel)) (hs (.exactly (.string "SelfEndingCodes" 91) "java/lang/String") (by decide +kernel)), ls_str (hts0 (.stringRef "SelfEndingCodes" 112 "what stands for it is above 2^62") (by decide +kernel)) (hs (.exactly (.string "SelfEndingCodes" 112) "java/lang/String") (by decide +kernel)), ls_str (hts0 (.stringRef "SelfEndingCodes" 118 "no such kind or parameter") (by decide +kernel)) (hs (.exactly (.string "SelfEndingCodes" 118) "java/lang/String") (by decide +kernel)), ls_str (hts0 (.stringRef "SelfEndingCodes" 120 "no such number") (by decide +kernel)) (hs (.exactly (.string "SelfEndingCodes" 120) "java/lang/String") (by decide +kernel)), ls_str (hts0 (.stringRef "SelfEndingCodes" 122 "no such length") (by decide +kernel)) (hs (.exactly (.string "SelfEndingCodes" 122) "java/lang/String") (by decide +kernel))⟩,
    fun w hw => va_Nw.of (jWA_in w hw).2 (hts0 w (jWA_in w hw).1), fun w hw => va_Nw.of (jWB_in w hw).2 (hts0 w (jWB_in w hw).1)⟩
theorem ls_ns {s : State} {b : Nat} (hts0 : ∀ w ∈ lw_tbl, w.before #[Value.ref b] s = true) : jNs s :=
  ⟨va_Nw.of rfl (hts0 (.fieldLinkNest "SelfEndingCodes" 45 "SelfEndingCodes$BitRow" "end" "I" "SelfEndingCodes") (by decide +kernel)), va_Nw.of rfl (hts0 (.fieldLinkNest "SelfEndingCodes" 71 "SelfEndingCodes$BitRow" "place" "I" "SelfEndingCodes") (by decide +kernel)), va_Nw.of rfl (hts0 (.fieldLinkNest "SelfEndingCodes" 190 "SelfEndingCodes$BitRow" "cursor" "I" "SelfEndingCodes") (by decide +kernel)), va_Nw.of rfl (hts0 (.methodLinkNest "SelfEndingCodes" 11 yX0_init "SelfEndingCodes") (by decide +kernel))⟩
set_option maxHeartbeats 4000000 in
set_option maxRecDepth 100000 in
theorem law_start {p : Program} {e : Env} {s : State} {m : MethodId} {below : List Frame} {meth : Method} {c : Code} (l : Launch) (hlt : l.stackTraces = false) {b L : Nat} {xs : Nat → Int32} (hL : L ≤ 2560) (C0 : lw_At p s m meth c b L xs) (I : jSt9 → Prop) (hI : ∀ (v_0 v_1 v_2 v_3 v_4 : Int32) (σ : jSt9), I σ → ∃ σ', jStep v_0 v_1 v_2 v_3 v_4 σ = some σ' ∧ I σ') (fb sm : Nat → Int64) (hj1 : j_X1_init = some fb) (hj2 : j_X2_init = some sm) (hI0 : I ((fun _ => 0 : Nat → Int64), 0, 0, 0, (fun _ => 0 : Nat → Int64), 0, fb, 0, (fun _ => 0 : Nat → Int32), 0, 0, (fun _ => 0 : Nat → Int64), 0, (fun _ => 0 : Nat → Int32), 0, sm, 0, 0, (fun _ => 0 : Nat → Int64))) : W p l e room_1 s m #[Value.ref b] below meth c s.heap [] 0 0 (lw_Z below #[Value.ref b] s) (entryFrame m ([Value.ref b] : List Value).toArray 8) := by
  obtain ⟨hx, hb, hr, hml, hown0, hts0, hX, hbl, hlocks, hgv⟩ := id C0
  have hts : ∀ w ∈ wsL_law, w.before #[Value.ref b] s = true := fun w h => hts0 w (wsL_law_in w h)
  have hown : s.vm.findClass RL = some m.cls := hown0
  have hN := ls_ns hts0
  have hXs := ls_xs hts0 hgv
  have hC : sl_Cx p s m meth c b L xs := ⟨hx, hb, hr, hml, hown, hts, hX, hbl, hlocks⟩
  obtain ⟨c0, iS0, hKn0⟩ := u_known (C := RX0) (T := TX0) (N := 4) (n := 4) hts0 inX0 (hts0 (.instantiable RX0 4) (by decide +kernel))
  obtain ⟨c1, iS1, hKn1⟩ := u_known (C := RX1) (T := TX1) (N := 4) (n := 4) hts0 inX1 (hts0 (.instantiable RX1 4) (by decide +kernel))
  obtain ⟨c2, iS2, hKn2⟩ := u_known (C := RX2) (T := TX2) (N := 11) (n := 11) hts0 inX2 (hts0 (.instantiable RX2 11) (by decide +kernel))
  obtain ⟨cI, aI, fI⟩ := ls_arr (ty := .int) (hts0 (.arrayClass .int) (by decide +kernel))
  obtain ⟨cJ, aJ, fJ⟩ := ls_arr (ty := .long) (hts0 (.arrayClass .long) (by decide +kernel))
  obtain ⟨dC, dI, hKc⟩ : ∃ (dC : Nat → ClassId) (dI : Nat → Nat → Nat), ∀ (k : Nat) (q : vw_C), vwCl[k]? = some q → u_Kn s q.1 q.2.1 q.2.2 (dC k) (dI k) := by
    refine ⟨fun k => if k = 0 then c0 else if k = 1 then c1 else c2, fun k => if k = 0 then iS0 else if k = 1 then iS1 else iS2, ?_⟩
    intro k q hq
    match k, hq with
    | 0, hq => cases hq; exact hKn0
    | 1, hq => cases hq; exact hKn1
    | 2, hq => cases hq; exact hKn2
    | k + 3, hq => simp [vwCl] at hq
  have hK : va_K (dC, dI) vwCl (jTy cI cJ) s := ⟨hKc, fun k q h => by
    match k, h with
    | 0, h => cases h; exact ⟨aI, fI⟩
    | 1, h => cases h; exact ⟨aJ, fJ⟩
    | k + 2, h => simp [jTy] at h⟩
  have hS : va_S (fun q : Nat => s.heap.size ≤ q) s.heap s.heap [] := va_S.rf
  have hP : va_P (dC, dI) vwCl [] s.heap := fun k q h => by simp at h
  have hD : va_D (fun q : Nat => s.heap.size ≤ q) [] := ⟨fun i j p q h => by simp at h, fun k q h => by simp at h⟩
  have hl := lv_entry ([.ref b]) (n := 8) (Nat.le_of_ble_eq_true rfl)
  rw [lg_entry_eq]
  generalize (lg_sl ([.ref b]) ++ List.replicate (8 - (lg_sl ([.ref b])).length) Slot.unset).toArray = ls at hl ⊢
  have hl : lv_has ls 8 [(0, .ref b)] := hl
  have hA : ∀ q : Nat, s.heap.size ≤ q → (fun q : Nat => s.heap.size ≤ q) q := fun _ h => h
  have hloop := fun (b1 b0 bw bq bf g0 gr gl gw gs bo : Nat) => law_loop (e := e) (below := below) hlt hC hK hN hXs hL b1 b0 bw bq bf g0 gr gl gw gs bo I hI
  generalize hAe : (fun q : Nat => s.heap.size ≤ q) = A at hA hD hS hXs hloop
  clear hAe
  refine va_new (ci := 1) (fs := [.null, .null, .null, .int 0]) (C := RX1) (T := TX1) (N := 4) hx hb hts0 inX1 tyX1 tyX1_ok hown (hts (.classLink RL 8 RX1) (by decide +kernel)) (hts (.instantiable RX1 4) (by decide +kernel)) (hts (.initialized RX1) (by decide +kernel)) hK hP hD hS hA rfl (fun j h9 => by rcases (show j = 0 ∨ j = 1 ∨ j = 2 ∨ j = 3 by omega) with rfl | rfl | rfl | rfl <;> rfl) (by decide) (by decide) dL_law_0 (fun b1 H hP hD hS => ?_)
  have hP : va_P (dC, dI) vwCl [(b1, .inr (1, [.null, .null, .null, .int 0]))] H := hP
  have hD : va_D A [(b1, .inr (1, [.null, .null, .null, .int 0]))] := hD
  refine W.widen (k := 1) (n := 4) (by decide) (by decide) ?_
  refine lv_dup hx hb dL_law_3 rfl ?_
  have hFc := va_free (wc := ([(b1, .inr (1, [.null, .null, .null, .int 0]))] : va_W)) hD hS hA [0] rfl
  refine va_callv (va_runI (As := []) (rest := [.ref b1]) ⟨hx, hb, hml, hown, hts⟩ (c_X1_init l dC dI cI cJ b1 H.size 0 fb hj1) (cwI 0 hts gL_law_X1_init rfl rfl rfl (hts (.initialized RX1) (by decide +kernel)) (hts (.methodLink RL 71 yX1_init) (by decide +kernel)) (hts (.instanceMethod yX1_init) (by decide +kernel)) rfl (by decide +kernel) ⟨Nat.le_of_ble_eq_true rfl, Nat.le_of_ble_eq_true rfl⟩) ⟨fun a U g mk q => ⟨q.1, jPr.blind q.2.1, jNs.blind q.2.2⟩, fun U hU hW => ⟨rfl, jPr.mk hU hW hP hK hD, jNs.warm hW hN⟩⟩ rfl rfl hl.1 rfl (lv_room (Nat.le_of_ble_eq_true rfl)) dL_law_4 ⟨Nat.le_of_ble_eq_true rfl, Nat.le_of_ble_eq_true rfl⟩) hS (fun q _ h => hFc q h) hFc (fun u t H1 locs ht hvm hw9 hB hz1 hk1 hS => ?_)
  obtain ⟨b0, bw, bq, bf⟩ := u
  obtain ⟨hP1, hK1, hD1⟩ := hB
  rw [ht] at hP1
  obtain ⟨hP, hD⟩ := va_join (wr := ([] : va_W)) (w1 := wC cJ b1 b0 bw bq bf (fun _ => 0 : Nat → Int64) 0 0 0 (fun _ => 0 : Nat → Int64) 0 fb) hP hD [0] [] rfl rfl (by decide) (by decide) hk1 hFc hP1 hD1
  clear hk1 hP1 hK1 hD1 hvm hz1 hFc
  generalize H1 = H at hP hS ⊢
  have hP : va_P (dC, dI) vwCl (wC cJ b1 b0 bw bq bf (fun _ => 0 : Nat → Int64) 0 0 0 (fun _ => 0 : Nat → Int64) 0 fb) H := hP
  have hD : va_D A (wC cJ b1 b0 bw bq bf (fun _ => 0 : Nat → Int64) 0 0 0 (fun _ => 0 : Nat → Int64) 0 fb) := hD
  refine W.widen (k := 5) (n := 261) (by decide) (by decide) ?_
  refine lv_astore_n (lv' := [(1, .ref b1), (0, .ref b)]) hx hb dL_law_7 rfl hl (by decide) rfl (fun ls hl => ?_)
  refine va_new (ci := 2) (fs := [.int 0, .null, .int 0, .int 0, .null, .int 0, .null, .int 0, .null, .int 0, .int 0]) (C := RX2) (T := TX2) (N := 11) hx hb hts0 inX2 tyX2 tyX2_ok hown (hts (.classLink RL 72 RX2) (by decide +kernel)) (hts (.instantiable RX2 11) (by decide +kernel)) (hts (.initialized RX2) (by decide +kernel)) hK hP hD hS hA rfl (fun j h9 => by rcases (show j = 0 ∨ j = 1 ∨ j = 2 ∨ j = 3 ∨ j = 4 ∨ j = 5 ∨ j = 6 ∨ j = 7 ∨ j = 8 ∨ j = 9 ∨ j = 10 by omega) with rfl | rfl | rfl | rfl | rfl | rfl | rfl | rfl | rfl | rfl | rfl <;> rfl) (by decide) (by decide) dL_law_8 (fun g0 H hP hD hS => ?_)
  have hP : va_P (dC, dI) vwCl [(b1, .inr (1, [.ref b0, .ref bq, .ref bf, .int 0])), (b0, .inr (0, [.ref bw, .int 0, .int 0, .int 0])), (bw, .inl (cJ, 64, .inr (.inl (fun _ => 0 : Nat → Int64)))), (bq, .inl (cJ, 100, .inr (.inl (fun _ => 0 : Nat → Int64)))), (bf, .inl (cJ, 89, .inr (.inl fb))), (g0, .inr (2, [.int 0, .null, .int 0, .int 0, .null, .int 0, .null, .int 0, .null, .int 0, .int 0]))] H := hP
  have hD : va_D A [(b1, .inr (1, [.ref b0, .ref bq, .ref bf, .int 0])), (b0, .inr (0, [.ref bw, .int 0, .int 0, .int 0])), (bw, .inl (cJ, 64, .inr (.inl (fun _ => 0 : Nat → Int64)))), (bq, .inl (cJ, 100, .inr (.inl (fun _ => 0 : Nat → Int64)))), (bf, .inl (cJ, 89, .inr (.inl fb))), (g0, .inr (2, [.int 0, .null, .int 0, .int 0, .null, .int 0, .null, .int 0, .null, .int 0, .int 0]))] := hD
  refine W.widen (k := 6) (n := 272) (by decide) (by decide) ?_
  refine lv_dup hx hb dL_law_11 rfl ?_
  have hPc := hP.sub (ws' := ([(g0, .inr (2, [.int 0, .null, .int 0, .int 0, .null, .int 0, .null, .int 0, .null, .int 0, .int 0]))] : va_W)) [5] rfl
  have hDc := hD.sub (ws' := ([(g0, .inr (2, [.int 0, .null, .int 0, .int 0, .null, .int 0, .null, .int 0, .null, .int 0, .int 0]))] : va_W)) [5] (by decide) rfl
  have hFc := va_free (wc := ([(g0, .inr (2, [.int 0, .null, .int 0, .int 0, .null, .int 0, .null, .int 0, .null, .int 0, .int 0]))] : va_W)) hD hS hA [5] rfl
  refine va_callv (va_runI (As := []) (rest := [.ref g0]) ⟨hx, hb, hml, hown, hts⟩ (c_X2_init l dC dI cI cJ g0 H.size 0 0 0 0 0 0 0 sm hj2) (cwI 0 hts gL_law_X2_init rfl rfl rfl (hts (.initialized RX2) (by decide +kernel)) (hts (.methodLink RL 74 yX2_init) (by decide +kernel)) (hts (.instanceMethod yX2_init) (by decide +kernel)) rfl (by decide +kernel) ⟨Nat.le_of_ble_eq_true rfl, Nat.le_of_ble_eq_true rfl⟩) ⟨fun a U g mk q => ⟨q.1, jPr.blind q.2⟩, fun U hU hW => ⟨rfl, jPr.mk hU hW hPc hK hDc⟩⟩ rfl rfl hl.1 rfl (lv_room (Nat.le_of_ble_eq_true rfl)) dL_law_12 ⟨Nat.le_of_ble_eq_true rfl, Nat.le_of_ble_eq_true rfl⟩) hS (fun q _ h => hFc q h) hFc (fun u t H1 locs ht hvm hw9 hB hz1 hk1 hS => ?_)
  obtain ⟨gr, gl, gw, gs⟩ := u
  obtain ⟨hP1, hK1, hD1⟩ := hB
  rw [ht] at hP1
  obtain ⟨hP, hD⟩ := va_join (wr := ([(b1, .inr (1, [.ref b0, .ref bq, .ref bf, .int 0])), (b0, .inr (0, [.ref bw, .int 0, .int 0, .int 0])), (bw, .inl (cJ, 64, .inr (.inl (fun _ => 0 : Nat → Int64)))), (bq, .inl (cJ, 100, .inr (.inl (fun _ => 0 : Nat → Int64)))), (bf, .inl (cJ, 89, .inr (.inl fb)))] : va_W)) (w1 := wM cI cJ g0 gr gl gw gs 0 (fun _ => 0 : Nat → Int32) 0 0 (fun _ => 0 : Nat → Int64) 0 (fun _ => 0 : Nat → Int32) 0 sm 0 0) hP hD [5] [0, 1, 2, 3, 4] rfl rfl (by decide) (by decide) hk1 hFc hP1 hD1
  clear hk1 hP1 hK1 hD1 hvm hz1 hFc hPc hDc
  generalize H1 = H at hP hS ⊢
  have hP : va_P (dC, dI) vwCl [(b1, .inr (1, [.ref b0, .ref bq, .ref bf, .int 0])), (b0, .inr (0, [.ref bw, .int 0, .int 0, .int 0])), (bw, .inl (cJ, 64, .inr (.inl (fun _ => 0 : Nat → Int64)))), (bq, .inl (cJ, 100, .inr (.inl (fun _ => 0 : Nat → Int64)))), (bf, .inl (cJ, 89, .inr (.inl fb))), (g0, .inr (2, [.int 0, .ref gr, .int 0, .int 0, .ref gl, .int 0, .ref gw, .int 0, .ref gs, .int 0, .int 0])), (gr, .inl (cI, 4096, .inl (fun _ => 0 : Nat → Int32))), (gl, .inl (cJ, 100, .inr (.inl (fun _ => 0 : Nat → Int64)))), (gw, .inl (cI, 4200, .inl (fun _ => 0 : Nat → Int32))), (gs, .inl (cJ, 92, .inr (.inl sm)))] H := hP
  have hD : va_D A [(b1, .inr (1, [.ref b0, .ref bq, .ref bf, .int 0])), (b0, .inr (0, [.ref bw, .int 0, .int 0, .int 0])), (bw, .inl (cJ, 64, .inr (.inl (fun _ => 0 : Nat → Int64)))), (bq, .inl (cJ, 100, .inr (.inl (fun _ => 0 : Nat → Int64)))), (bf, .inl (cJ, 89, .inr (.inl fb))), (g0, .inr (2, [.int 0, .ref gr, .int 0, .int 0, .ref gl, .int 0, .ref gw, .int 0, .ref gs, .int 0, .int 0])), (gr, .inl (cI, 4096, .inl (fun _ => 0 : Nat → Int32))), (gl, .inl (cJ, 100, .inr (.inl (fun _ => 0 : Nat → Int64)))), (gw, .inl (cI, 4200, .inl (fun _ => 0 : Nat → Int32))), (gs, .inl (cJ, 92, .inr (.inl sm)))] := hD
  refine W.widen (k := 10) (n := 8760) (by decide) (by decide) ?_
  refine lv_astore_n (lv' := [(2, .ref g0), (1, .ref b1), (0, .ref b)]) hx hb dL_law_15 rfl hl (by decide) rfl (fun ls hl => ?_)
  refine lv_iconst (v := (1 : Int32)) hx hb dL_law_16 (by decide) ?_
  refine va_newa (atype := .long) hx hb (hts (.arrayClass .long) (by decide +kernel)) (ty := .long) rfl hK hP hD hS hA (N' := 1) (a0 := (1, .inr (.inl (fun _ => 0)))) (fun cA => (vp_cell_l cA 1 (fun _ => 0)).trans (congrArg (arrV cA 1) (funext fun _ => rfl))) (by decide) (by decide) (by decide) (by decide) (by decide) dL_law_17 (fun bo cA H hK2 hP hD hS => ?_)
  rw [jclJ hK2] at hP hD
  clear hK2
  refine W.widen (k := 11) (n := 8761) (by decide) (by decide) ?_
  have hP : va_P (dC, dI) vwCl (wL cI cJ b1 b0 bw bq bf g0 gr gl gw gs bo (fun _ => 0 : Nat → Int64) 0 0 0 (fun _ => 0 : Nat → Int64) 0 fb 0 (fun _ => 0 : Nat → Int32) 0 0 (fun _ => 0 : Nat → Int64) 0 (fun _ => 0 : Nat → Int32) 0 sm 0 0 (fun _ => 0 : Nat → Int64)) H := hP
  have hD : va_D A (wL cI cJ b1 b0 bw bq bf g0 gr gl gw gs bo (fun _ => 0 : Nat → Int64) 0 0 0 (fun _ => 0 : Nat → Int64) 0 fb 0 (fun _ => 0 : Nat → Int32) 0 0 (fun _ => 0 : Nat → Int64) 0 (fun _ => 0 : Nat → Int32) 0 sm 0 0 (fun _ => 0 : Nat → Int64)) := hD
  refine lv_astore_n (lv' := [(3, .ref bo), (2, .ref g0), (1, .ref b1), (0, .ref b)]) hx hb dL_law_19 rfl hl (by decide) rfl (fun ls hl => ?_)
  refine lv_iconst (v := (0 : Int32)) hx hb dL_law_20 (by decide) ?_
  refine lv_istore (lv' := [(4, .int 0), (3, .ref bo), (2, .ref g0), (1, .ref b1), (0, .ref b)]) hx hb dL_law_21 hl (by decide) rfl (fun ls hl => ?_)
  exact hloop b1 b0 bw bq bf g0 gr gl gw gs bo (L + 1) 0 ((fun _ => 0 : Nat → Int64), 0, 0, 0, (fun _ => 0 : Nat → Int64), 0, fb, 0, (fun _ => 0 : Nat → Int32), 0, 0, (fun _ => 0 : Nat → Int64), 0, (fun _ => 0 : Nat → Int32), 0, sm, 0, 0, (fun _ => 0 : Nat → Int64)) (by omega) (by omega) hI0 H _ ls hP hD hS (lv_sub hl [4, 3, 2, 1, 0] rfl)
