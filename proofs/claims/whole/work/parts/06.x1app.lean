set_option maxRecDepth 100000 in
theorem inn_X1_appendGamma_X1 : ∀ w ∈ u_ws RX1 TX1 4, w ∈ wsX1_appendGamma := by decide +kernel
def j_X1_appendGamma (w : Nat → Int64) (en : Int32) (a1 : Int64) : Option ((Nat → Int64) × Int32) :=
  (j_X1_bitLength a1).bind fun v1 => ((j_X0_appendBits w en (0 : Int64) (v1 - (1 : Int32))).bind fun (v2, v3) => ((j_X1_bitLength a1).bind fun v4 => ((j_X0_appendBits v2 v3 a1 v4).bind fun (v5, v6) => (some (v5, v6)))))
set_option maxHeartbeats 4000000 in
set_option maxRecDepth 100000 in
theorem c_X1_appendGamma (l : Launch) (dC : Nat → ClassId) (dI : Nat → Nat → Nat) (cI cJ : ClassId) (b1 : Nat) (b0 : Nat) (bw : Nat) (bq : Nat) (bf : Nat) (sz : Nat) (w : Nat → Int64) (en : Int32) (pl : Int32) (cu : Int32) (li : Nat → Int64) (ld : Int32) (fb : Nat → Int64) (a1 : Int64) (r : (Nat → Int64) × Int32) (hj : j_X1_appendGamma w en a1 = some r) : Met l yX1_appendGamma wsX1_appendGamma ({ frames := 3, cells := 0, slots := 0, locals := 69 } : Room) (va_Pc [.ref b1, .long a1] (fun U => jPr dC dI cI cJ (wC cJ b1 b0 bw bq bf w en pl cu li ld fb) sz U ∧ jNs U)) (va_Qv (fun _ : Unit => True) (fun (_ : Unit) t => jPo dC dI cI cJ (wC cJ b1 b0 bw bq bf r.1 r.2 pl cu li ld fb) (va_A (wC cJ b1 b0 bw bq bf w en pl cu li ld fb) sz) t) (va_A (wC cJ b1 b0 bw bq bf w en pl cu li ld fb) sz)) 0 0 (va_A (wC cJ b1 b0 bw bq bf w en pl cu li ld fb) sz) := by
  refine Met.ofW (cc := cX1_appendGamma) (maxL := 3) (ret := none) (by decide) rfl ?_
  intro p e s m args below meth c s₁ B hml hv
  obtain ⟨rfl, ⟨hsz, hP, hK, hD0⟩, hN⟩ := hv
  have hx := B.exec
  have hb := B.bytes
  have hr := B.returns
  have hts := atoms_spec (ws := wsX1_appendGamma) B.pre
  have hown : s.vm.findClass RX1 = some m.cls := findClass_of_methodNamed B.named
  have hlocks := B.notSynchronized
  have C0 := jCx.of hx hb hr hml hown hts hlocks
  subst hsz
  have hD := hD0.self (sz := s.heap.size)
  generalize hAe : va_A (wC cJ b1 b0 bw bq bf w en pl cu li ld fb) s.heap.size = A at hD ⊢
  have hA : ∀ q : Nat, s.heap.size ≤ q → A q := fun q h => by rw [← hAe]; exact Or.inr h
  have hS : va_S A s.heap s.heap [] := va_S.rf
  have hP : va_P (dC, dI) vwCl (wC cJ b1 b0 bw bq bf w en pl cu li ld fb) s.heap := hP
  have hl := lv_entry ([.ref b1, .long a1]) (n := 3) (Nat.le_of_ble_eq_true rfl)
  rw [lg_entry_eq]
  generalize (lg_sl ([.ref b1, .long a1]) ++ List.replicate (3 - (lg_sl ([.ref b1, .long a1])).length) Slot.unset).toArray = ls at hl ⊢
  have hl : lv_has ls 3 [(0, .ref b1), (1, .long a1)] := hl
  clear hD0 hAe
  unfold j_X1_appendGamma at hj
  refine lv_aload_n hx hb dX1_appendGamma_0 rfl (lv_at hl 0 rfl) ?_
  refine va_get (D := (dC, dI)) (ci := 1) (v := .ref b0) (C := RX1) (T := TX1) (N := 4) hx hb hts inn_X1_appendGamma_X1 hown hK hP 0 rfl rfl 0 (by decide) (hts (.fieldLink RX1 12 "SelfEndingCodes" "row" "LSelfEndingCodes$BitRow;") (by decide +kernel)) (fun _ h9 => h9) rfl dX1_appendGamma_1 ?_
  refine lv_lconst (v := (0 : Int64)) hx hb dX1_appendGamma_4 (by decide) ?_
  refine lv_lload_n hx hb dX1_appendGamma_5 rfl (lv_at hl 1 rfl) ?_
  obtain ⟨v1, hc, hj⟩ := ja_bd hj
  try dsimp only at hj
  have hPc := hP.sub (ws' := ([] : va_W)) [] rfl
  have hDc := hD.sub (ws' := ([] : va_W)) [] (by decide) rfl
  have hFc := va_free (wc := ([] : va_W)) hD hS hA [] rfl
  refine va_calli (va_runS (As := [.long a1]) (rest := [.long (0 : Int64), .ref b0]) ⟨hx, hb, hml, hown, hts⟩ (c_X1_bitLength l dC dI cI cJ s.heap.size a1 _ hc) (va_cwS 1 hts gX1_appendGamma_X1_bitLength rfl rfl rfl (by decide +kernel) ⟨Nat.le_of_ble_eq_true rfl, Nat.le_of_ble_eq_true rfl⟩) ⟨fun a U g mk q => ⟨q.1, jPr.blind q.2⟩, fun U hU hW => ⟨rfl, jPr.mk hU hW hPc hK hDc⟩⟩ rfl rfl hl.1 rfl (lv_room (Nat.le_of_ble_eq_true rfl)) dX1_appendGamma_6 ⟨Nat.le_of_ble_eq_true rfl, Nat.le_of_ble_eq_true rfl⟩) hS (fun q _ h => hFc q h) hFc (fun rr u t H1 locs ht hvm hw9 hB hz1 hk1 hS => ?_)
  have hw8 : v1 = rr := hw9.symm
  subst hw8
  obtain ⟨hP1, hK1, hD1⟩ := hB
  rw [ht] at hP1
  obtain ⟨hP, hD⟩ := va_join (wr := ([(b1, .inr (1, [.ref b0, .ref bq, .ref bf, .int ld])), (b0, .inr (0, [.ref bw, .int en, .int pl, .int cu])), (bw, .inl (cJ, 64, .inr (.inl w))), (bq, .inl (cJ, 100, .inr (.inl li))), (bf, .inl (cJ, 89, .inr (.inl fb)))] : va_W)) (w1 := ([] : va_W)) hP hD [] [0, 1, 2, 3, 4] rfl rfl (by decide) (by decide) hk1 hFc hP1 hD1
  clear hk1 hP1 hK1 hD1 hvm hz1 hPc hDc hFc
  generalize H1 = H at hP hS ⊢
  have hP : va_P (dC, dI) vwCl (wC cJ b1 b0 bw bq bf w en pl cu li ld fb) H := hP
  have hD : va_D A (wC cJ b1 b0 bw bq bf w en pl cu li ld fb) := hD
  refine lv_iconst (v := (1 : Int32)) hx hb dX1_appendGamma_9 (by decide) ?_
  refine lv_isub hx hb dX1_appendGamma_10 ?_
  obtain ⟨⟨v2, v3⟩, hc, hj⟩ := ja_bd hj
  try dsimp only at hj
  have hPc := hP.sub (ws' := (wB cJ b0 bw w en pl cu)) [1, 2] rfl
  have hDc := hD.sub (ws' := (wB cJ b0 bw w en pl cu)) [1, 2] (by decide) rfl
  have hFc := va_free (wc := (wB cJ b0 bw w en pl cu)) hD hS hA [1, 2] rfl
  refine va_callv (va_runV (As := [.long (0 : Int64), .int (v1 - (1 : Int32))]) (rest := []) ⟨hx, hb, hml, hown, hts⟩ (c_X0_appendBits l dC dI cI cJ b0 bw H.size w en pl cu (0 : Int64) (v1 - (1 : Int32)) _ hc) (cwV 2 hts gX1_appendGamma_X0_appendBits rfl rfl rfl (by decide +kernel) ⟨Nat.le_of_ble_eq_true rfl, Nat.le_of_ble_eq_true rfl⟩) ⟨fun a U g mk q => ⟨q.1, jPr.blind q.2⟩, va_recv hK hPc (ci := 0) (q0 := 0) rfl rfl, fun U hU hW => ⟨rfl, jPr.mk hU hW hPc hK hDc⟩⟩ rfl rfl hl.1 rfl (lv_room (Nat.le_of_ble_eq_true rfl)) dX1_appendGamma_11 ⟨Nat.le_of_ble_eq_true rfl, Nat.le_of_ble_eq_true rfl⟩) hS (fun q _ h => hFc q h) hFc (fun u t H1 locs ht hvm hw9 hB hz1 hk1 hS => ?_)
  obtain ⟨hP1, hK1, hD1⟩ := hB
  rw [ht] at hP1
  obtain ⟨hP, hD⟩ := va_join (wr := ([(b1, .inr (1, [.ref b0, .ref bq, .ref bf, .int ld])), (bq, .inl (cJ, 100, .inr (.inl li))), (bf, .inl (cJ, 89, .inr (.inl fb)))] : va_W)) (w1 := (wB cJ b0 bw v2 v3 pl cu)) hP hD [1, 2] [0, 3, 4] rfl rfl (by decide) (by decide) hk1 hFc hP1 hD1
  replace hP := hP.sub (ws' := (wC cJ b1 b0 bw bq bf v2 v3 pl cu li ld fb)) [0, 3, 4, 1, 2] rfl
  replace hD := hD.sub (ws' := (wC cJ b1 b0 bw bq bf v2 v3 pl cu li ld fb)) [0, 3, 4, 1, 2] (by decide) rfl
  clear hk1 hP1 hK1 hD1 hvm hz1 hPc hDc hFc
  generalize H1 = H at hP hS ⊢
  have hP : va_P (dC, dI) vwCl (wC cJ b1 b0 bw bq bf v2 v3 pl cu li ld fb) H := hP
  have hD : va_D A (wC cJ b1 b0 bw bq bf v2 v3 pl cu li ld fb) := hD
  refine lv_aload_n hx hb dX1_appendGamma_14 rfl (lv_at hl 0 rfl) ?_
  refine va_get (D := (dC, dI)) (ci := 1) (v := .ref b0) (C := RX1) (T := TX1) (N := 4) hx hb hts inn_X1_appendGamma_X1 hown hK hP 0 rfl rfl 0 (by decide) (hts (.fieldLink RX1 12 "SelfEndingCodes" "row" "LSelfEndingCodes$BitRow;") (by decide +kernel)) (fun _ h9 => h9) rfl dX1_appendGamma_15 ?_
  refine lv_lload_n hx hb dX1_appendGamma_18 rfl (lv_at hl 1 rfl) ?_
  refine lv_lload_n hx hb dX1_appendGamma_19 rfl (lv_at hl 1 rfl) ?_
  obtain ⟨v4, hc, hj⟩ := ja_bd hj
  try dsimp only at hj
  have hPc := hP.sub (ws' := ([] : va_W)) [] rfl
  have hDc := hD.sub (ws' := ([] : va_W)) [] (by decide) rfl
  have hFc := va_free (wc := ([] : va_W)) hD hS hA [] rfl
  refine va_calli (va_runS (As := [.long a1]) (rest := [.long a1, .ref b0]) ⟨hx, hb, hml, hown, hts⟩ (c_X1_bitLength l dC dI cI cJ H.size a1 _ hc) (va_cwS 1 hts gX1_appendGamma_X1_bitLength rfl rfl rfl (by decide +kernel) ⟨Nat.le_of_ble_eq_true rfl, Nat.le_of_ble_eq_true rfl⟩) ⟨fun a U g mk q => ⟨q.1, jPr.blind q.2⟩, fun U hU hW => ⟨rfl, jPr.mk hU hW hPc hK hDc⟩⟩ rfl rfl hl.1 rfl (lv_room (Nat.le_of_ble_eq_true rfl)) dX1_appendGamma_20 ⟨Nat.le_of_ble_eq_true rfl, Nat.le_of_ble_eq_true rfl⟩) hS (fun q _ h => hFc q h) hFc (fun rr u t H1 locs ht hvm hw9 hB hz1 hk1 hS => ?_)
  have hw8 : v4 = rr := hw9.symm
  subst hw8
  obtain ⟨hP1, hK1, hD1⟩ := hB
  rw [ht] at hP1
  obtain ⟨hP, hD⟩ := va_join (wr := ([(b1, .inr (1, [.ref b0, .ref bq, .ref bf, .int ld])), (b0, .inr (0, [.ref bw, .int v3, .int pl, .int cu])), (bw, .inl (cJ, 64, .inr (.inl v2))), (bq, .inl (cJ, 100, .inr (.inl li))), (bf, .inl (cJ, 89, .inr (.inl fb)))] : va_W)) (w1 := ([] : va_W)) hP hD [] [0, 1, 2, 3, 4] rfl rfl (by decide) (by decide) hk1 hFc hP1 hD1
  clear hk1 hP1 hK1 hD1 hvm hz1 hPc hDc hFc
  generalize H1 = H at hP hS ⊢
  have hP : va_P (dC, dI) vwCl (wC cJ b1 b0 bw bq bf v2 v3 pl cu li ld fb) H := hP
  have hD : va_D A (wC cJ b1 b0 bw bq bf v2 v3 pl cu li ld fb) := hD
  obtain ⟨⟨v5, v6⟩, hc, hj⟩ := ja_bd hj
  try dsimp only at hj
  have hPc := hP.sub (ws' := (wB cJ b0 bw v2 v3 pl cu)) [1, 2] rfl
  have hDc := hD.sub (ws' := (wB cJ b0 bw v2 v3 pl cu)) [1, 2] (by decide) rfl
  have hFc := va_free (wc := (wB cJ b0 bw v2 v3 pl cu)) hD hS hA [1, 2] rfl
  refine va_callv (va_runV (As := [.long a1, .int v4]) (rest := []) ⟨hx, hb, hml, hown, hts⟩ (c_X0_appendBits l dC dI cI cJ b0 bw H.size v2 v3 pl cu a1 v4 _ hc) (cwV 2 hts gX1_appendGamma_X0_appendBits rfl rfl rfl (by decide +kernel) ⟨Nat.le_of_ble_eq_true rfl, Nat.le_of_ble_eq_true rfl⟩) ⟨fun a U g mk q => ⟨q.1, jPr.blind q.2⟩, va_recv hK hPc (ci := 0) (q0 := 0) rfl rfl, fun U hU hW => ⟨rfl, jPr.mk hU hW hPc hK hDc⟩⟩ rfl rfl hl.1 rfl (lv_room (Nat.le_of_ble_eq_true rfl)) dX1_appendGamma_23 ⟨Nat.le_of_ble_eq_true rfl, Nat.le_of_ble_eq_true rfl⟩) hS (fun q _ h => hFc q h) hFc (fun u t H1 locs ht hvm hw9 hB hz1 hk1 hS => ?_)
  obtain ⟨hP1, hK1, hD1⟩ := hB
  rw [ht] at hP1
  obtain ⟨hP, hD⟩ := va_join (wr := ([(b1, .inr (1, [.ref b0, .ref bq, .ref bf, .int ld])), (bq, .inl (cJ, 100, .inr (.inl li))), (bf, .inl (cJ, 89, .inr (.inl fb)))] : va_W)) (w1 := (wB cJ b0 bw v5 v6 pl cu)) hP hD [1, 2] [0, 3, 4] rfl rfl (by decide) (by decide) hk1 hFc hP1 hD1
  replace hP := hP.sub (ws' := (wC cJ b1 b0 bw bq bf v5 v6 pl cu li ld fb)) [0, 3, 4, 1, 2] rfl
  replace hD := hD.sub (ws' := (wC cJ b1 b0 bw bq bf v5 v6 pl cu li ld fb)) [0, 3, 4, 1, 2] (by decide) rfl
  clear hk1 hP1 hK1 hD1 hvm hz1 hPc hDc hFc
  generalize H1 = H at hP hS ⊢
  have hP : va_P (dC, dI) vwCl (wC cJ b1 b0 bw bq bf v5 v6 pl cu li ld fb) H := hP
  have hD : va_D A (wC cJ b1 b0 bw bq bf v5 v6 pl cu li ld fb) := hD
  have hr9 : (v5, v6) = r := Option.some.inj hj
  subst hr9
  exact W.vret hx hb hr (fun t ht hW => ⟨⟨(), rfl, trivial, by rw [ht]; exact hP, va_K.moved hW.alike hK, hD⟩, hS.F ht⟩) hS.2.2 dX1_appendGamma_26

set_option maxRecDepth 100000 in
theorem inn_X1_appendOmega_X0 : ∀ w ∈ u_ws RX0 TX0 4, w ∈ wsX1_appendOmega := by decide +kernel
set_option maxRecDepth 100000 in
theorem inn_X1_appendOmega_X1 : ∀ w ∈ u_ws RX1 TX1 4, w ∈ wsX1_appendOmega := by decide +kernel
def jL_X1_appendOmega_24 (en : Int32) (x3 : Int32) : Nat → Int32 → Int64 → Int32 → (Nat → Int64) → Option ((Nat → Int64) × Int32)
  | 0, _, _, _, _ => none
  | n + 1, x4, x5, x7, w => if (8 : Int32) ≤ x7 then (some (w, en + x3)) else (if x5 ≤ (1 : Int64) then (some (w, en + x3)) else ((j_X1_bitLength x5).bind fun v2403 => ((j_X0_writeBits w (x4 - v2403) x5 v2403).bind fun v2404 => (jL_X1_appendOmega_24 en x3 n (x4 - v2403) ((v2403 - (1 : Int32)).toInt64) (x7 + (1 : Int32)) v2404))))
set_option maxHeartbeats 4000000 in
set_option maxRecDepth 100000 in
theorem s_X1_appendOmega_24 {p : Program} {l : Launch} {e : Env} {s : State} {m : MethodId} {args : Array Value} {below : List Frame} {meth : Method} {c : Code} {dC : Nat → ClassId} {dI : Nat → Nat → Nat} {cI cJ : ClassId} {A : Nat → Prop} (C0 : jCx p s m args meth c RX1 cX1_appendOmega 9 none wsX1_appendOmega) (hK : va_K (dC, dI) vwCl (jTy cI cJ) s) (hA : ∀ q : Nat, s.heap.size ≤ q → A q) (hN : jNs s) (b1 : Nat) (b0 : Nat) (bw : Nat) (bq : Nat) (bf : Nat) (en : Int32) (pl : Int32) (cu : Int32) (li : Nat → Int64) (ld : Int32) (fb : Nat → Int64) (x3 : Int32) :
    ∀ (n : Nat) (x4 : Int32) (x5 : Int64) (x7 : Int32) (w : Nat → Int64) (r : (Nat → Int64) × Int32), jL_X1_appendOmega_24 en x3 n x4 x5 x7 w = some r → ∀ (H : Heap) (locs : List Loc) (ls : Array Slot), va_P (dC, dI) vwCl (wC cJ b1 b0 bw bq bf w en pl cu li ld fb) H → va_D A (wC cJ b1 b0 bw bq bf w en pl cu li ld fb) → va_S A s.heap H locs → lv_has ls 9 [(0, .ref b1), (3, .int x3), (4, .int x4), (5, .long x5), (7, .int x7)] → W p l e ({ frames := 4, cells := 0, slots := 0, locals := 90 } : Room) s m args below meth c H locs 0 0 (MQ below (va_Qv (fun _ : Unit => True) (fun (_ : Unit) t => jPo dC dI cI cJ (wC cJ b1 b0 bw bq bf r.1 r.2 pl cu li ld fb) A t) A) args s 0 0 A) (F0 m 24 ls []) := by
  obtain ⟨hx, hb, hr, hml, hown, hts, hlocks⟩ := id C0
  intro n
  induction n with
  | zero =>
    intro x4 x5 x7 w r hj
    exact nomatch (show (none : Option ((Nat → Int64) × Int32)) = some r from hj)
  | succ n ih =>
    intro x4 x5 x7 w r hj H locs ls hP hD hS hl
    replace hj : (if (8 : Int32) ≤ x7 then (some (w, en + x3)) else (if x5 ≤ (1 : Int64) then (some (w, en + x3)) else ((j_X1_bitLength x5).bind fun v2403 => ((j_X0_writeBits w (x4 - v2403) x5 v2403).bind fun v2404 => (jL_X1_appendOmega_24 en x3 n (x4 - v2403) ((v2403 - (1 : Int32)).toInt64) (x7 + (1 : Int32)) v2404))))) = some r := hj
    refine lv_iload hx hb dX1_appendOmega_24 (lv_at hl 4 rfl) ?_
    refine lv_bipush (v := (8 : Int32)) hx hb dX1_appendOmega_26 (by decide) ?_
    refine lv_icmp_ge (tgt := 78) hx hb dX1_appendOmega_28 (by decide) (fun c2401 => ?_) (fun c2401 => ?_)
    · replace hj := ja_pos c2401 hj
      refine lv_aload_n hx hb dX1_appendOmega_78 rfl (lv_at hl 0 rfl) ?_
      refine va_get (D := (dC, dI)) (ci := 1) (v := .ref b0) (C := RX1) (T := TX1) (N := 4) hx hb hts inn_X1_appendOmega_X1 hown hK hP 0 rfl rfl 0 (by decide) (hts (.fieldLink RX1 12 "SelfEndingCodes" "row" "LSelfEndingCodes$BitRow;") (by decide +kernel)) (fun _ h9 => h9) rfl dX1_appendOmega_79 ?_
      refine lv_dup hx hb dX1_appendOmega_82 rfl ?_
      refine va_getN (D := (dC, dI)) (ci := 0) (v := .int en) (C := RX0) (T := TX0) (N := 4) hx hb hts inn_X1_appendOmega_X0 hown hK hP 1 rfl rfl 1 (by decide) (va_Nw.use rfl hN.1) (fun _ h9 => h9) rfl dX1_appendOmega_83 ?_
      refine lv_iload_n hx hb dX1_appendOmega_86 rfl (lv_at hl 1 rfl) ?_
      refine lv_iadd hx hb dX1_appendOmega_87 ?_
      refine va_putN (D := (dC, dI)) (ci := 0) (v := .int (en + x3)) (ty := .int) (C := RX0) (T := TX0) (N := 4) hx hb hts inn_X1_appendOmega_X0 tyX0 tyX0_ok nmX0 hown hK hP hD hS 1 rfl rfl 1 (by decide) (va_Nw.use rfl hN.1) (fun _ h9 => h9) rfl (by decide +kernel) rfl rfl (Nat.le_of_ble_eq_true rfl) dX1_appendOmega_88 (fun H locs hP hD hS => ?_)
      have hP : va_P (dC, dI) vwCl (wC cJ b1 b0 bw bq bf w (en + x3) pl cu li ld fb) H := hP
      have hD : va_D A (wC cJ b1 b0 bw bq bf w (en + x3) pl cu li ld fb) := hD
      have hr9 : (w, en + x3) = r := Option.some.inj hj
      subst hr9
      exact W.vret hx hb hr (fun t ht hW => ⟨⟨(), rfl, trivial, by rw [ht]; exact hP, va_K.moved hW.alike hK, hD⟩, hS.F ht⟩) hS.2.2 dX1_appendOmega_91
    · replace hj := ja_neg c2401 hj
      refine lv_lload hx hb dX1_appendOmega_31 (lv_at hl 3 rfl) ?_
      refine lv_lconst (v := (1 : Int64)) hx hb dX1_appendOmega_33 (by decide) ?_
      refine W.lcmp hx hb dX1_appendOmega_34 ?_
      refine lv_if_le (tgt := 78) hx hb dX1_appendOmega_35 (by decide) (fun c2402 => ?_) (fun c2402 => ?_)
      · replace hj := ja_pos ((lg_cmp_le x5 (1 : Int64)).mp c2402) hj
        refine lv_aload_n hx hb dX1_appendOmega_78 rfl (lv_at hl 0 rfl) ?_
        refine va_get (D := (dC, dI)) (ci := 1) (v := .ref b0) (C := RX1) (T := TX1) (N := 4) hx hb hts inn_X1_appendOmega_X1 hown hK hP 0 rfl rfl 0 (by decide) (hts (.fieldLink RX1 12 "SelfEndingCodes" "row" "LSelfEndingCodes$BitRow;") (by decide +kernel)) (fun _ h9 => h9) rfl dX1_appendOmega_79 ?_
        refine lv_dup hx hb dX1_appendOmega_82 rfl ?_
        refine va_getN (D := (dC, dI)) (ci := 0) (v := .int en) (C := RX0) (T := TX0) (N := 4) hx hb hts inn_X1_appendOmega_X0 hown hK hP 1 rfl rfl 1 (by decide) (va_Nw.use rfl hN.1) (fun _ h9 => h9) rfl dX1_appendOmega_83 ?_
        refine lv_iload_n hx hb dX1_appendOmega_86 rfl (lv_at hl 1 rfl) ?_
        refine lv_iadd hx hb dX1_appendOmega_87 ?_
        refine va_putN (D := (dC, dI)) (ci := 0) (v := .int (en + x3)) (ty := .int) (C := RX0) (T := TX0) (N := 4) hx hb hts inn_X1_appendOmega_X0 tyX0 tyX0_ok nmX0 hown hK hP hD hS 1 rfl rfl 1 (by decide) (va_Nw.use rfl hN.1) (fun _ h9 => h9) rfl (by decide +kernel) rfl rfl (Nat.le_of_ble_eq_true rfl) dX1_appendOmega_88 (fun H locs hP hD hS => ?_)
        have hP : va_P (dC, dI) vwCl (wC cJ b1 b0 bw bq bf w (en + x3) pl cu li ld fb) H := hP
        have hD : va_D A (wC cJ b1 b0 bw bq bf w (en + x3) pl cu li ld fb) := hD
        have hr9 : (w, en + x3) = r := Option.some.inj hj
        subst hr9
        exact W.vret hx hb hr (fun t ht hW => ⟨⟨(), rfl, trivial, by rw [ht]; exact hP, va_K.moved hW.alike hK, hD⟩, hS.F ht⟩) hS.2.2 dX1_appendOmega_91
      · replace hj := ja_neg (fun h9 => c2402 ((lg_cmp_le x5 (1 : Int64)).mpr h9)) hj
        refine lv_lload hx hb dX1_appendOmega_38 (lv_at hl 3 rfl) ?_
        obtain ⟨v2403, hc, hj⟩ := ja_bd hj
        try dsimp only at hj
        have hPc := hP.sub (ws' := ([] : va_W)) [] rfl
        have hDc := hD.sub (ws' := ([] : va_W)) [] (by decide) rfl
        have hFc := va_free (wc := ([] : va_W)) hD hS hA [] rfl
        refine va_calli (va_runS (As := [.long x5]) (rest := []) ⟨hx, hb, hml, hown, hts⟩ (c_X1_bitLength l dC dI cI cJ H.size x5 _ hc) (va_cwS 1 hts gX1_appendOmega_X1_bitLength rfl rfl rfl (by decide +kernel) ⟨Nat.le_of_ble_eq_true rfl, Nat.le_of_ble_eq_true rfl⟩) ⟨fun a U g mk q => ⟨q.1, jPr.blind q.2⟩, fun U hU hW => ⟨rfl, jPr.mk hU hW hPc hK hDc⟩⟩ rfl rfl hl.1 rfl (lv_room (Nat.le_of_ble_eq_true rfl)) dX1_appendOmega_40 ⟨Nat.le_of_ble_eq_true rfl, Nat.le_of_ble_eq_true rfl⟩) hS (fun q _ h => hFc q h) hFc (fun rr u t H1 locs ht hvm hw9 hB hz1 hk1 hS => ?_)
        have hw8 : v2403 = rr := hw9.symm
        subst hw8
        obtain ⟨hP1, hK1, hD1⟩ := hB
        rw [ht] at hP1
        obtain ⟨hP, hD⟩ := va_join (wr := ([(b1, .inr (1, [.ref b0, .ref bq, .ref bf, .int ld])), (b0, .inr (0, [.ref bw, .int en, .int pl, .int cu])), (bw, .inl (cJ, 64, .inr (.inl w))), (bq, .inl (cJ, 100, .inr (.inl li))), (bf, .inl (cJ, 89, .inr (.inl fb)))] : va_W)) (w1 := ([] : va_W)) hP hD [] [0, 1, 2, 3, 4] rfl rfl (by decide) (by decide) hk1 hFc hP1 hD1
        clear hk1 hP1 hK1 hD1 hvm hz1 hPc hDc hFc
        generalize H1 = H at hP hS ⊢
        have hP : va_P (dC, dI) vwCl (wC cJ b1 b0 bw bq bf w en pl cu li ld fb) H := hP
        have hD : va_D A (wC cJ b1 b0 bw bq bf w en pl cu li ld fb) := hD
        refine lv_istore (lv' := [(8, .int v2403), (0, .ref b1), (3, .int x3), (4, .int x4), (5, .long x5), (7, .int x7)]) hx hb dX1_appendOmega_43 hl (by decide) rfl (fun ls hl => ?_)
        refine lv_iload hx hb dX1_appendOmega_45 (lv_at hl 3 rfl) ?_
        refine lv_iload hx hb dX1_appendOmega_47 (lv_at hl 0 rfl) ?_
        refine lv_isub hx hb dX1_appendOmega_49 ?_
        refine lv_istore (lv' := [(4, .int (x4 - v2403)), (8, .int v2403), (0, .ref b1), (3, .int x3), (5, .long x5), (7, .int x7)]) hx hb dX1_appendOmega_50 hl (by decide) rfl (fun ls hl => ?_)
        refine lv_aload_n hx hb dX1_appendOmega_52 rfl (lv_at hl 2 rfl) ?_
        refine va_get (D := (dC, dI)) (ci := 1) (v := .ref b0) (C := RX1) (T := TX1) (N := 4) hx hb hts inn_X1_appendOmega_X1 hown hK hP 0 rfl rfl 0 (by decide) (hts (.fieldLink RX1 12 "SelfEndingCodes" "row" "LSelfEndingCodes$BitRow;") (by decide +kernel)) (fun _ h9 => h9) rfl dX1_appendOmega_53 ?_
        refine lv_iload hx hb dX1_appendOmega_56 (lv_at hl 0 rfl) ?_
        refine lv_lload hx hb dX1_appendOmega_58 (lv_at hl 4 rfl) ?_
        refine lv_iload hx hb dX1_appendOmega_60 (lv_at hl 1 rfl) ?_
        obtain ⟨v2404, hc, hj⟩ := ja_bd hj
        try dsimp only at hj
        have hPc := hP.sub (ws' := (wB cJ b0 bw w en pl cu)) [1, 2] rfl
        have hDc := hD.sub (ws' := (wB cJ b0 bw w en pl cu)) [1, 2] (by decide) rfl
        have hFc := va_free (wc := (wB cJ b0 bw w en pl cu)) hD hS hA [1, 2] rfl
        refine va_callv (va_runV (As := [.int (x4 - v2403), .long x5, .int v2403]) (rest := []) ⟨hx, hb, hml, hown, hts⟩ (c_X0_writeBits l dC dI cI cJ b0 bw H.size w en pl cu (x4 - v2403) x5 v2403 _ hc) (cwV 3 hts gX1_appendOmega_X0_writeBits rfl rfl rfl (by decide +kernel) ⟨Nat.le_of_ble_eq_true rfl, Nat.le_of_ble_eq_true rfl⟩) ⟨fun a U g mk q => ⟨q.1, jPr.blind q.2⟩, va_recv hK hPc (ci := 0) (q0 := 0) rfl rfl, fun U hU hW => ⟨rfl, jPr.mk hU hW hPc hK hDc⟩⟩ rfl rfl hl.1 rfl (lv_room (Nat.le_of_ble_eq_true rfl)) dX1_appendOmega_62 ⟨Nat.le_of_ble_eq_true rfl, Nat.le_of_ble_eq_true rfl⟩) hS (fun q _ h => hFc q h) hFc (fun u t H1 locs ht hvm hw9 hB hz1 hk1 hS => ?_)
        obtain ⟨hP1, hK1, hD1⟩ := hB
        rw [ht] at hP1
        obtain ⟨hP, hD⟩ := va_join (wr := ([(b1, .inr (1, [.ref b0, .ref bq, .ref bf, .int ld])), (bq, .inl (cJ, 100, .inr (.inl li))), (bf, .inl (cJ, 89, .inr (.inl fb)))] : va_W)) (w1 := (wB cJ b0 bw v2404 en pl cu)) hP hD [1, 2] [0, 3, 4] rfl rfl (by decide) (by decide) hk1 hFc hP1 hD1
        replace hP := hP.sub (ws' := (wC cJ b1 b0 bw bq bf v2404 en pl cu li ld fb)) [0, 3, 4, 1, 2] rfl
        replace hD := hD.sub (ws' := (wC cJ b1 b0 bw bq bf v2404 en pl cu li ld fb)) [0, 3, 4, 1, 2] (by decide) rfl
        clear hk1 hP1 hK1 hD1 hvm hz1 hPc hDc hFc
        generalize H1 = H at hP hS ⊢
        have hP : va_P (dC, dI) vwCl (wC cJ b1 b0 bw bq bf v2404 en pl cu li ld fb) H := hP
        have hD : va_D A (wC cJ b1 b0 bw bq bf v2404 en pl cu li ld fb) := hD
        refine lv_iload hx hb dX1_appendOmega_65 (lv_at hl 1 rfl) ?_
        refine lv_iconst (v := (1 : Int32)) hx hb dX1_appendOmega_67 (by decide) ?_
        refine lv_isub hx hb dX1_appendOmega_68 ?_
        refine lv_i2l hx hb dX1_appendOmega_69 rfl ?_
        refine lv_lstore (lv' := [(5, .long ((v2403 - (1 : Int32)).toInt64)), (4, .int (x4 - v2403)), (8, .int v2403), (0, .ref b1), (3, .int x3), (7, .int x7)]) hx hb dX1_appendOmega_70 hl (by decide) rfl (fun ls hl => ?_)
        refine lv_iinc (v := x7 + (1 : Int32)) (lv' := [(7, .int (x7 + (1 : Int32))), (5, .long ((v2403 - (1 : Int32)).toInt64)), (4, .int (x4 - v2403)), (8, .int v2403), (0, .ref b1), (3, .int x3)]) hx hb dX1_appendOmega_72 hl (k := 5) rfl (congrArg (fun z => x7 + z) (by decide)) (by decide) rfl (fun ls hl => ?_)
        refine lv_goto (tgt := 24) hx hb dX1_appendOmega_75 (by decide) ?_
        exact ih (x4 - v2403) ((v2403 - (1 : Int32)).toInt64) (x7 + (1 : Int32)) v2404 _ hj _ _ _ (hP) (hD) hS (lv_sub hl [4, 5, 2, 1, 0] rfl)
def j_X1_appendOmega (w : Nat → Int64) (en : Int32) (a1 : Int64) : Option ((Nat → Int64) × Int32) :=
  (j_X1_omegaLength a1).bind fun v1 => (jL_X1_appendOmega_24 en v1 jF ((en + v1) - (1 : Int32)) a1 (0 : Int32) w)
set_option maxHeartbeats 4000000 in
set_option maxRecDepth 100000 in
theorem c_X1_appendOmega (l : Launch) (dC : Nat → ClassId) (dI : Nat → Nat → Nat) (cI cJ : ClassId) (b1 : Nat) (b0 : Nat) (bw : Nat) (bq : Nat) (bf : Nat) (sz : Nat) (w : Nat → Int64) (en : Int32) (pl : Int32) (cu : Int32) (li : Nat → Int64) (ld : Int32) (fb : Nat → Int64) (a1 : Int64) (r : (Nat → Int64) × Int32) (hj : j_X1_appendOmega w en a1 = some r) : Met l yX1_appendOmega wsX1_appendOmega ({ frames := 4, cells := 0, slots := 0, locals := 90 } : Room) (va_Pc [.ref b1, .long a1] (fun U => jPr dC dI cI cJ (wC cJ b1 b0 bw bq bf w en pl cu li ld fb) sz U ∧ jNs U)) (va_Qv (fun _ : Unit => True) (fun (_ : Unit) t => jPo dC dI cI cJ (wC cJ b1 b0 bw bq bf r.1 r.2 pl cu li ld fb) (va_A (wC cJ b1 b0 bw bq bf w en pl cu li ld fb) sz) t) (va_A (wC cJ b1 b0 bw bq bf w en pl cu li ld fb) sz)) 0 0 (va_A (wC cJ b1 b0 bw bq bf w en pl cu li ld fb) sz) := by
  refine Met.ofW (cc := cX1_appendOmega) (maxL := 9) (ret := none) (by decide) rfl ?_
  intro p e s m args below meth c s₁ B hml hv
  obtain ⟨rfl, ⟨hsz, hP, hK, hD0⟩, hN⟩ := hv
  have hx := B.exec
  have hb := B.bytes
  have hr := B.returns
  have hts := atoms_spec (ws := wsX1_appendOmega) B.pre
  have hown : s.vm.findClass RX1 = some m.cls := findClass_of_methodNamed B.named
  have hlocks := B.notSynchronized
  have C0 := jCx.of hx hb hr hml hown hts hlocks
  subst hsz
  have hD := hD0.self (sz := s.heap.size)
  generalize hAe : va_A (wC cJ b1 b0 bw bq bf w en pl cu li ld fb) s.heap.size = A at hD ⊢
  have hA : ∀ q : Nat, s.heap.size ≤ q → A q := fun q h => by rw [← hAe]; exact Or.inr h
  have hS : va_S A s.heap s.heap [] := va_S.rf
  have hP : va_P (dC, dI) vwCl (wC cJ b1 b0 bw bq bf w en pl cu li ld fb) s.heap := hP
  have hl := lv_entry ([.ref b1, .long a1]) (n := 9) (Nat.le_of_ble_eq_true rfl)
  rw [lg_entry_eq]
  generalize (lg_sl ([.ref b1, .long a1]) ++ List.replicate (9 - (lg_sl ([.ref b1, .long a1])).length) Slot.unset).toArray = ls at hl ⊢
  have hl : lv_has ls 9 [(0, .ref b1), (1, .long a1)] := hl
  clear hD0 hAe
  unfold j_X1_appendOmega at hj
  refine lv_lload_n hx hb dX1_appendOmega_0 rfl (lv_at hl 1 rfl) ?_
  obtain ⟨v1, hc, hj⟩ := ja_bd hj
  try dsimp only at hj
  have hPc := hP.sub (ws' := ([] : va_W)) [] rfl
  have hDc := hD.sub (ws' := ([] : va_W)) [] (by decide) rfl
  have hFc := va_free (wc := ([] : va_W)) hD hS hA [] rfl
  refine va_calli (va_runS (As := [.long a1]) (rest := []) ⟨hx, hb, hml, hown, hts⟩ (c_X1_omegaLength l dC dI cI cJ s.heap.size a1 _ hc) (va_cwS 1 hts gX1_appendOmega_X1_omegaLength rfl rfl rfl (by decide +kernel) ⟨Nat.le_of_ble_eq_true rfl, Nat.le_of_ble_eq_true rfl⟩) ⟨fun a U g mk q => ⟨q.1, jPr.blind q.2⟩, fun U hU hW => ⟨rfl, jPr.mk hU hW hPc hK hDc⟩⟩ rfl rfl hl.1 rfl (lv_room (Nat.le_of_ble_eq_true rfl)) dX1_appendOmega_1 ⟨Nat.le_of_ble_eq_true rfl, Nat.le_of_ble_eq_true rfl⟩) hS (fun q _ h => hFc q h) hFc (fun rr u t H1 locs ht hvm hw9 hB hz1 hk1 hS => ?_)
  have hw8 : v1 = rr := hw9.symm
  subst hw8
  obtain ⟨hP1, hK1, hD1⟩ := hB
  rw [ht] at hP1
  obtain ⟨hP, hD⟩ := va_join (wr := ([(b1, .inr (1, [.ref b0, .ref bq, .ref bf, .int ld])), (b0, .inr (0, [.ref bw, .int en, .int pl, .int cu])), (bw, .inl (cJ, 64, .inr (.inl w))), (bq, .inl (cJ, 100, .inr (.inl li))), (bf, .inl (cJ, 89, .inr (.inl fb)))] : va_W)) (w1 := ([] : va_W)) hP hD [] [0, 1, 2, 3, 4] rfl rfl (by decide) (by decide) hk1 hFc hP1 hD1
  clear hk1 hP1 hK1 hD1 hvm hz1 hPc hDc hFc
  generalize H1 = H at hP hS ⊢
  have hP : va_P (dC, dI) vwCl (wC cJ b1 b0 bw bq bf w en pl cu li ld fb) H := hP
  have hD : va_D A (wC cJ b1 b0 bw bq bf w en pl cu li ld fb) := hD
  refine lv_istore_n (lv' := [(3, .int v1), (0, .ref b1), (1, .long a1)]) hx hb dX1_appendOmega_4 rfl hl (by decide) rfl (fun ls hl => ?_)
  refine lv_aload_n hx hb dX1_appendOmega_5 rfl (lv_at hl 1 rfl) ?_
  refine va_get (D := (dC, dI)) (ci := 1) (v := .ref b0) (C := RX1) (T := TX1) (N := 4) hx hb hts inn_X1_appendOmega_X1 hown hK hP 0 rfl rfl 0 (by decide) (hts (.fieldLink RX1 12 "SelfEndingCodes" "row" "LSelfEndingCodes$BitRow;") (by decide +kernel)) (fun _ h9 => h9) rfl dX1_appendOmega_6 ?_
  refine va_getN (D := (dC, dI)) (ci := 0) (v := .int en) (C := RX0) (T := TX0) (N := 4) hx hb hts inn_X1_appendOmega_X0 hown hK hP 1 rfl rfl 1 (by decide) (va_Nw.use rfl hN.1) (fun _ h9 => h9) rfl dX1_appendOmega_9 ?_
  refine lv_iload_n hx hb dX1_appendOmega_12 rfl (lv_at hl 0 rfl) ?_
  refine lv_iadd hx hb dX1_appendOmega_13 ?_
  refine lv_iconst (v := (1 : Int32)) hx hb dX1_appendOmega_14 (by decide) ?_
  refine lv_isub hx hb dX1_appendOmega_15 ?_
  refine lv_istore (lv' := [(4, .int ((en + v1) - (1 : Int32))), (3, .int v1), (0, .ref b1), (1, .long a1)]) hx hb dX1_appendOmega_16 hl (by decide) rfl (fun ls hl => ?_)
  refine lv_lload_n hx hb dX1_appendOmega_18 rfl (lv_at hl 3 rfl) ?_
  refine lv_lstore (lv' := [(5, .long a1), (4, .int ((en + v1) - (1 : Int32))), (3, .int v1), (0, .ref b1), (1, .long a1)]) hx hb dX1_appendOmega_19 hl (by decide) rfl (fun ls hl => ?_)
  refine lv_iconst (v := (0 : Int32)) hx hb dX1_appendOmega_21 (by decide) ?_
  refine lv_istore (lv' := [(7, .int (0 : Int32)), (5, .long a1), (4, .int ((en + v1) - (1 : Int32))), (3, .int v1), (0, .ref b1), (1, .long a1)]) hx hb dX1_appendOmega_22 hl (by decide) rfl (fun ls hl => ?_)
  exact s_X1_appendOmega_24 C0 hK hA hN b1 b0 bw bq bf en pl cu li ld fb v1 jF ((en + v1) - (1 : Int32)) a1 (0 : Int32) w _ hj _ _ _ (hP) (hD) hS (lv_sub hl [4, 3, 2, 1, 0] rfl)

set_option maxRecDepth 100000 in
theorem inn_X1_appendFibonacci_X0 : ∀ w ∈ u_ws RX0 TX0 4, w ∈ wsX1_appendFibonacci := by decide +kernel
set_option maxRecDepth 100000 in
theorem inn_X1_appendFibonacci_X1 : ∀ w ∈ u_ws RX1 TX1 4, w ∈ wsX1_appendFibonacci := by decide +kernel
def jL_X1_appendFibonacci_14 (en : Int32) (fb : Nat → Int64) (x3 : Int32) : Nat → Int64 → Int32 → (Nat → Int64) → Option ((Nat → Int64) × Int32)
  | 0, _, _, _ => none
  | n + 1, x4, x6, w => if x6 < (0 : Int32) then ((j_X0_writeBits w ((en + x3) - (1 : Int32)) (1 : Int64) (1 : Int32)).bind fun v1402 => (some (v1402, en + x3))) else (jix x6 89 (if x4 < (fb x6.toNatClampNeg) then (jL_X1_appendFibonacci_14 en fb x3 n x4 (x6 + (-1 : Int32)) w) else ((j_X0_writeBits w (en + x6) (1 : Int64) (1 : Int32)).bind fun v1404 => (jix x6 89 (jL_X1_appendFibonacci_14 en fb x3 n (x4 - (fb x6.toNatClampNeg)) (x6 + (-1 : Int32)) v1404)))))
set_option maxHeartbeats 4000000 in
set_option maxRecDepth 100000 in
theorem s_X1_appendFibonacci_14 {p : Program} {l : Launch} {e : Env} {s : State} {m : MethodId} {args : Array Value} {below : List Frame} {meth : Method} {c : Code} {dC : Nat → ClassId} {dI : Nat → Nat → Nat} {cI cJ : ClassId} {A : Nat → Prop} (C0 : jCx p s m args meth c RX1 cX1_appendFibonacci 7 none wsX1_appendFibonacci) (hK : va_K (dC, dI) vwCl (jTy cI cJ) s) (hA : ∀ q : Nat, s.heap.size ≤ q → A q) (hN : jNs s) (b1 : Nat) (b0 : Nat) (bw : Nat) (bq : Nat) (bf : Nat) (en : Int32) (pl : Int32) (cu : Int32) (li : Nat → Int64) (ld : Int32) (fb : Nat → Int64) (x3 : Int32) :
    ∀ (n : Nat) (x4 : Int64) (x6 : Int32) (w : Nat → Int64) (r : (Nat → Int64) × Int32), jL_X1_appendFibonacci_14 en fb x3 n x4 x6 w = some r → ∀ (H : Heap) (locs : List Loc) (ls : Array Slot), va_P (dC, dI) vwCl (wC cJ b1 b0 bw bq bf w en pl cu li ld fb) H → va_D A (wC cJ b1 b0 bw bq bf w en pl cu li ld fb) → va_S A s.heap H locs → lv_has ls 7 [(0, .ref b1), (3, .int x3), (4, .long x4), (6, .int x6)] → W p l e ({ frames := 2, cells := 0, slots := 0, locals := 46 } : Room) s m args below meth c H locs 0 0 (MQ below (va_Qv (fun _ : Unit => True) (fun (_ : Unit) t => jPo dC dI cI cJ (wC cJ b1 b0 bw bq bf r.1 r.2 pl cu li ld fb) A t) A) args s 0 0 A) (F0 m 14 ls []) := by
  obtain ⟨hx, hb, hr, hml, hown, hts, hlocks⟩ := id C0
  intro n
  induction n with
  | zero =>
    intro x4 x6 w r hj
    exact nomatch (show (none : Option ((Nat → Int64) × Int32)) = some r from hj)
  | succ n ih =>
    intro x4 x6 w r hj H locs ls hP hD hS hl
    replace hj : (if x6 < (0 : Int32) then ((j_X0_writeBits w ((en + x3) - (1 : Int32)) (1 : Int64) (1 : Int32)).bind fun v1402 => (some (v1402, en + x3))) else (jix x6 89 (if x4 < (fb x6.toNatClampNeg) then (jL_X1_appendFibonacci_14 en fb x3 n x4 (x6 + (-1 : Int32)) w) else ((j_X0_writeBits w (en + x6) (1 : Int64) (1 : Int32)).bind fun v1404 => (jix x6 89 (jL_X1_appendFibonacci_14 en fb x3 n (x4 - (fb x6.toNatClampNeg)) (x6 + (-1 : Int32)) v1404)))))) = some r := hj
    refine lv_iload hx hb dX1_appendFibonacci_14 (lv_at hl 3 rfl) ?_
    refine lv_if_lt (tgt := 69) hx hb dX1_appendFibonacci_16 (by decide) (fun c1401 => ?_) (fun c1401 => ?_)
    · replace hj := ja_pos c1401 hj
      refine lv_aload_n hx hb dX1_appendFibonacci_69 rfl (lv_at hl 0 rfl) ?_
      refine va_get (D := (dC, dI)) (ci := 1) (v := .ref b0) (C := RX1) (T := TX1) (N := 4) hx hb hts inn_X1_appendFibonacci_X1 hown hK hP 0 rfl rfl 0 (by decide) (hts (.fieldLink RX1 12 "SelfEndingCodes" "row" "LSelfEndingCodes$BitRow;") (by decide +kernel)) (fun _ h9 => h9) rfl dX1_appendFibonacci_70 ?_
      refine lv_aload_n hx hb dX1_appendFibonacci_73 rfl (lv_at hl 0 rfl) ?_
      refine va_get (D := (dC, dI)) (ci := 1) (v := .ref b0) (C := RX1) (T := TX1) (N := 4) hx hb hts inn_X1_appendFibonacci_X1 hown hK hP 0 rfl rfl 0 (by decide) (hts (.fieldLink RX1 12 "SelfEndingCodes" "row" "LSelfEndingCodes$BitRow;") (by decide +kernel)) (fun _ h9 => h9) rfl dX1_appendFibonacci_74 ?_
      refine va_getN (D := (dC, dI)) (ci := 0) (v := .int en) (C := RX0) (T := TX0) (N := 4) hx hb hts inn_X1_appendFibonacci_X0 hown hK hP 1 rfl rfl 1 (by decide) (va_Nw.use rfl hN.1) (fun _ h9 => h9) rfl dX1_appendFibonacci_77 ?_
      refine lv_iload_n hx hb dX1_appendFibonacci_80 rfl (lv_at hl 1 rfl) ?_
      refine lv_iadd hx hb dX1_appendFibonacci_81 ?_
      refine lv_iconst (v := (1 : Int32)) hx hb dX1_appendFibonacci_82 (by decide) ?_
      refine lv_isub hx hb dX1_appendFibonacci_83 ?_
      refine lv_lconst (v := (1 : Int64)) hx hb dX1_appendFibonacci_84 (by decide) ?_
      refine lv_iconst (v := (1 : Int32)) hx hb dX1_appendFibonacci_85 (by decide) ?_
      obtain ⟨v1402, hc, hj⟩ := ja_bd hj
      try dsimp only at hj
      have hPc := hP.sub (ws' := (wB cJ b0 bw w en pl cu)) [1, 2] rfl
      have hDc := hD.sub (ws' := (wB cJ b0 bw w en pl cu)) [1, 2] (by decide) rfl
      have hFc := va_free (wc := (wB cJ b0 bw w en pl cu)) hD hS hA [1, 2] rfl
      refine va_callv (va_runV (As := [.int ((en + x3) - (1 : Int32)), .long (1 : Int64), .int (1 : Int32)]) (rest := []) ⟨hx, hb, hml, hown, hts⟩ (c_X0_writeBits l dC dI cI cJ b0 bw H.size w en pl cu ((en + x3) - (1 : Int32)) (1 : Int64) (1 : Int32) _ hc) (cwV 3 hts gX1_appendFibonacci_X0_writeBits rfl rfl rfl (by decide +kernel) ⟨Nat.le_of_ble_eq_true rfl, Nat.le_of_ble_eq_true rfl⟩) ⟨fun a U g mk q => ⟨q.1, jPr.blind q.2⟩, va_recv hK hPc (ci := 0) (q0 := 0) rfl rfl, fun U hU hW => ⟨rfl, jPr.mk hU hW hPc hK hDc⟩⟩ rfl rfl hl.1 rfl (lv_room (Nat.le_of_ble_eq_true rfl)) dX1_appendFibonacci_86 ⟨Nat.le_of_ble_eq_true rfl, Nat.le_of_ble_eq_true rfl⟩) hS (fun q _ h => hFc q h) hFc (fun u t H1 locs ht hvm hw9 hB hz1 hk1 hS => ?_)
      obtain ⟨hP1, hK1, hD1⟩ := hB
      rw [ht] at hP1
      obtain ⟨hP, hD⟩ := va_join (wr := ([(b1, .inr (1, [.ref b0, .ref bq, .ref bf, .int ld])), (bq, .inl (cJ, 100, .inr (.inl li))), (bf, .inl (cJ, 89, .inr (.inl fb)))] : va_W)) (w1 := (wB cJ b0 bw v1402 en pl cu)) hP hD [1, 2] [0, 3, 4] rfl rfl (by decide) (by decide) hk1 hFc hP1 hD1
      replace hP := hP.sub (ws' := (wC cJ b1 b0 bw bq bf v1402 en pl cu li ld fb)) [0, 3, 4, 1, 2] rfl
      replace hD := hD.sub (ws' := (wC cJ b1 b0 bw bq bf v1402 en pl cu li ld fb)) [0, 3, 4, 1, 2] (by decide) rfl
      clear hk1 hP1 hK1 hD1 hvm hz1 hPc hDc hFc
      generalize H1 = H at hP hS ⊢
      have hP : va_P (dC, dI) vwCl (wC cJ b1 b0 bw bq bf v1402 en pl cu li ld fb) H := hP
      have hD : va_D A (wC cJ b1 b0 bw bq bf v1402 en pl cu li ld fb) := hD
      refine lv_aload_n hx hb dX1_appendFibonacci_89 rfl (lv_at hl 0 rfl) ?_
      refine va_get (D := (dC, dI)) (ci := 1) (v := .ref b0) (C := RX1) (T := TX1) (N := 4) hx hb hts inn_X1_appendFibonacci_X1 hown hK hP 0 rfl rfl 0 (by decide) (hts (.fieldLink RX1 12 "SelfEndingCodes" "row" "LSelfEndingCodes$BitRow;") (by decide +kernel)) (fun _ h9 => h9) rfl dX1_appendFibonacci_90 ?_
      refine lv_dup hx hb dX1_appendFibonacci_93 rfl ?_
      refine va_getN (D := (dC, dI)) (ci := 0) (v := .int en) (C := RX0) (T := TX0) (N := 4) hx hb hts inn_X1_appendFibonacci_X0 hown hK hP 1 rfl rfl 1 (by decide) (va_Nw.use rfl hN.1) (fun _ h9 => h9) rfl dX1_appendFibonacci_94 ?_
      refine lv_iload_n hx hb dX1_appendFibonacci_97 rfl (lv_at hl 1 rfl) ?_
      refine lv_iadd hx hb dX1_appendFibonacci_98 ?_
      refine va_putN (D := (dC, dI)) (ci := 0) (v := .int (en + x3)) (ty := .int) (C := RX0) (T := TX0) (N := 4) hx hb hts inn_X1_appendFibonacci_X0 tyX0 tyX0_ok nmX0 hown hK hP hD hS 1 rfl rfl 1 (by decide) (va_Nw.use rfl hN.1) (fun _ h9 => h9) rfl (by decide +kernel) rfl rfl (Nat.le_of_ble_eq_true rfl) dX1_appendFibonacci_99 (fun H locs hP hD hS => ?_)
      have hP : va_P (dC, dI) vwCl (wC cJ b1 b0 bw bq bf v1402 (en + x3) pl cu li ld fb) H := hP
      have hD : va_D A (wC cJ b1 b0 bw bq bf v1402 (en + x3) pl cu li ld fb) := hD
      have hr9 : (v1402, en + x3) = r := Option.some.inj hj
      subst hr9
      exact W.vret hx hb hr (fun t ht hW => ⟨⟨(), rfl, trivial, by rw [ht]; exact hP, va_K.moved hW.alike hK, hD⟩, hS.F ht⟩) hS.2.2 dX1_appendFibonacci_102
    · replace hj := ja_neg c1401 hj
      refine lv_aload_n hx hb dX1_appendFibonacci_19 rfl (lv_at hl 0 rfl) ?_
      refine va_get (D := (dC, dI)) (ci := 1) (v := .ref bf) (C := RX1) (T := TX1) (N := 4) hx hb hts inn_X1_appendFibonacci_X1 hown hK hP 0 rfl rfl 2 (by decide) (hts (.fieldLink RX1 24 "SelfEndingCodes" "fibonacci" "[J") (by decide +kernel)) (fun _ h9 => h9) rfl dX1_appendFibonacci_20 ?_
      refine lv_iload hx hb dX1_appendFibonacci_23 (lv_at hl 3 rfl) ?_
      obtain ⟨hin, hj⟩ := ja_ix hj
      refine va_lald hx hb hK hP 4 1 rfl rfl hin dX1_appendFibonacci_25 ?_
      refine lv_lload hx hb dX1_appendFibonacci_26 (lv_at hl 2 rfl) ?_
      refine W.lcmp hx hb dX1_appendFibonacci_28 ?_
      refine lv_if_gt (tgt := 63) hx hb dX1_appendFibonacci_29 (by decide) (fun c1403 => ?_) (fun c1403 => ?_)
      · replace hj := ja_pos ((lg_cmp_gt (fb x6.toNatClampNeg) x4).mp c1403) hj
        refine lv_iinc (v := x6 + (-1 : Int32)) (lv' := [(6, .int (x6 + (-1 : Int32))), (0, .ref b1), (3, .int x3), (4, .long x4)]) hx hb dX1_appendFibonacci_63 hl (k := 3) rfl (congrArg (fun z => x6 + z) (by decide)) (by decide) rfl (fun ls hl => ?_)
        refine lv_goto (tgt := 14) hx hb dX1_appendFibonacci_66 (by decide) ?_
        exact ih x4 (x6 + (-1 : Int32)) w _ hj _ _ _ (hP) (hD) hS (lv_sub hl [1, 2, 3, 0] rfl)
      · replace hj := ja_neg (fun h9 => c1403 ((lg_cmp_gt (fb x6.toNatClampNeg) x4).mpr h9)) hj
        refine lv_aload_n hx hb dX1_appendFibonacci_32 rfl (lv_at hl 0 rfl) ?_
        refine va_get (D := (dC, dI)) (ci := 1) (v := .ref b0) (C := RX1) (T := TX1) (N := 4) hx hb hts inn_X1_appendFibonacci_X1 hown hK hP 0 rfl rfl 0 (by decide) (hts (.fieldLink RX1 12 "SelfEndingCodes" "row" "LSelfEndingCodes$BitRow;") (by decide +kernel)) (fun _ h9 => h9) rfl dX1_appendFibonacci_33 ?_
        refine lv_aload_n hx hb dX1_appendFibonacci_36 rfl (lv_at hl 0 rfl) ?_
        refine va_get (D := (dC, dI)) (ci := 1) (v := .ref b0) (C := RX1) (T := TX1) (N := 4) hx hb hts inn_X1_appendFibonacci_X1 hown hK hP 0 rfl rfl 0 (by decide) (hts (.fieldLink RX1 12 "SelfEndingCodes" "row" "LSelfEndingCodes$BitRow;") (by decide +kernel)) (fun _ h9 => h9) rfl dX1_appendFibonacci_37 ?_
        refine va_getN (D := (dC, dI)) (ci := 0) (v := .int en) (C := RX0) (T := TX0) (N := 4) hx hb hts inn_X1_appendFibonacci_X0 hown hK hP 1 rfl rfl 1 (by decide) (va_Nw.use rfl hN.1) (fun _ h9 => h9) rfl dX1_appendFibonacci_40 ?_
        refine lv_iload hx hb dX1_appendFibonacci_43 (lv_at hl 3 rfl) ?_
        refine lv_iadd hx hb dX1_appendFibonacci_45 ?_
        refine lv_lconst (v := (1 : Int64)) hx hb dX1_appendFibonacci_46 (by decide) ?_
        refine lv_iconst (v := (1 : Int32)) hx hb dX1_appendFibonacci_47 (by decide) ?_
        obtain ⟨v1404, hc, hj⟩ := ja_bd hj
        try dsimp only at hj
        have hPc := hP.sub (ws' := (wB cJ b0 bw w en pl cu)) [1, 2] rfl
        have hDc := hD.sub (ws' := (wB cJ b0 bw w en pl cu)) [1, 2] (by decide) rfl
        have hFc := va_free (wc := (wB cJ b0 bw w en pl cu)) hD hS hA [1, 2] rfl
        refine va_callv (va_runV (As := [.int (en + x6), .long (1 : Int64), .int (1 : Int32)]) (rest := []) ⟨hx, hb, hml, hown, hts⟩ (c_X0_writeBits l dC dI cI cJ b0 bw H.size w en pl cu (en + x6) (1 : Int64) (1 : Int32) _ hc) (cwV 3 hts gX1_appendFibonacci_X0_writeBits rfl rfl rfl (by decide +kernel) ⟨Nat.le_of_ble_eq_true rfl, Nat.le_of_ble_eq_true rfl⟩) ⟨fun a U g mk q => ⟨q.1, jPr.blind q.2⟩, va_recv hK hPc (ci := 0) (q0 := 0) rfl rfl, fun U hU hW => ⟨rfl, jPr.mk hU hW hPc hK hDc⟩⟩ rfl rfl hl.1 rfl (lv_room (Nat.le_of_ble_eq_true rfl)) dX1_appendFibonacci_48 ⟨Nat.le_of_ble_eq_true rfl, Nat.le_of_ble_eq_true rfl⟩) hS (fun q _ h => hFc q h) hFc (fun u t H1 locs ht hvm hw9 hB hz1 hk1 hS => ?_)
        obtain ⟨hP1, hK1, hD1⟩ := hB
        rw [ht] at hP1
        obtain ⟨hP, hD⟩ := va_join (wr := ([(b1, .inr (1, [.ref b0, .ref bq, .ref bf, .int ld])), (bq, .inl (cJ, 100, .inr (.inl li))), (bf, .inl (cJ, 89, .inr (.inl fb)))] : va_W)) (w1 := (wB cJ b0 bw v1404 en pl cu)) hP hD [1, 2] [0, 3, 4] rfl rfl (by decide) (by decide) hk1 hFc hP1 hD1
        replace hP := hP.sub (ws' := (wC cJ b1 b0 bw bq bf v1404 en pl cu li ld fb)) [0, 3, 4, 1, 2] rfl
        replace hD := hD.sub (ws' := (wC cJ b1 b0 bw bq bf v1404 en pl cu li ld fb)) [0, 3, 4, 1, 2] (by decide) rfl
        clear hk1 hP1 hK1 hD1 hvm hz1 hPc hDc hFc
        generalize H1 = H at hP hS ⊢
        have hP : va_P (dC, dI) vwCl (wC cJ b1 b0 bw bq bf v1404 en pl cu li ld fb) H := hP
        have hD : va_D A (wC cJ b1 b0 bw bq bf v1404 en pl cu li ld fb) := hD
        refine lv_lload hx hb dX1_appendFibonacci_51 (lv_at hl 2 rfl) ?_
        refine lv_aload_n hx hb dX1_appendFibonacci_53 rfl (lv_at hl 0 rfl) ?_
        refine va_get (D := (dC, dI)) (ci := 1) (v := .ref bf) (C := RX1) (T := TX1) (N := 4) hx hb hts inn_X1_appendFibonacci_X1 hown hK hP 0 rfl rfl 2 (by decide) (hts (.fieldLink RX1 24 "SelfEndingCodes" "fibonacci" "[J") (by decide +kernel)) (fun _ h9 => h9) rfl dX1_appendFibonacci_54 ?_
        refine lv_iload hx hb dX1_appendFibonacci_57 (lv_at hl 3 rfl) ?_
        obtain ⟨hin, hj⟩ := ja_ix hj
        refine va_lald hx hb hK hP 4 1 rfl rfl hin dX1_appendFibonacci_59 ?_
        refine lv_lsub hx hb dX1_appendFibonacci_60 ?_
        refine lv_lstore (lv' := [(4, .long (x4 - (fb x6.toNatClampNeg))), (0, .ref b1), (3, .int x3), (6, .int x6)]) hx hb dX1_appendFibonacci_61 hl (by decide) rfl (fun ls hl => ?_)
        refine lv_iinc (v := x6 + (-1 : Int32)) (lv' := [(6, .int (x6 + (-1 : Int32))), (4, .long (x4 - (fb x6.toNatClampNeg))), (0, .ref b1), (3, .int x3)]) hx hb dX1_appendFibonacci_63 hl (k := 3) rfl (congrArg (fun z => x6 + z) (by decide)) (by decide) rfl (fun ls hl => ?_)
        refine lv_goto (tgt := 14) hx hb dX1_appendFibonacci_66 (by decide) ?_
        exact ih (x4 - (fb x6.toNatClampNeg)) (x6 + (-1 : Int32)) v1404 _ hj _ _ _ (hP) (hD) hS (lv_sub hl [2, 3, 1, 0] rfl)
def j_X1_appendFibonacci (w : Nat → Int64) (en : Int32) (fb : Nat → Int64) (a1 : Int64) : Option ((Nat → Int64) × Int32) :=
  (j_X1_fibonacciLength fb a1).bind fun v1 => (jL_X1_appendFibonacci_14 en fb v1 jF a1 (v1 - (2 : Int32)) w)
set_option maxHeartbeats 4000000 in
set_option maxRecDepth 100000 in
theorem c_X1_appendFibonacci (l : Launch) (dC : Nat → ClassId) (dI : Nat → Nat → Nat) (cI cJ : ClassId) (b1 : Nat) (b0 : Nat) (bw : Nat) (bq : Nat) (bf : Nat) (sz : Nat) (w : Nat → Int64) (en : Int32) (pl : Int32) (cu : Int32) (li : Nat → Int64) (ld : Int32) (fb : Nat → Int64) (a1 : Int64) (r : (Nat → Int64) × Int32) (hj : j_X1_appendFibonacci w en fb a1 = some r) : Met l yX1_appendFibonacci wsX1_appendFibonacci ({ frames := 2, cells := 0, slots := 0, locals := 46 } : Room) (va_Pc [.ref b1, .long a1] (fun U => jPr dC dI cI cJ (wC cJ b1 b0 bw bq bf w en pl cu li ld fb) sz U ∧ jNs U)) (va_Qv (fun _ : Unit => True) (fun (_ : Unit) t => jPo dC dI cI cJ (wC cJ b1 b0 bw bq bf r.1 r.2 pl cu li ld fb) (va_A (wC cJ b1 b0 bw bq bf w en pl cu li ld fb) sz) t) (va_A (wC cJ b1 b0 bw bq bf w en pl cu li ld fb) sz)) 0 0 (va_A (wC cJ b1 b0 bw bq bf w en pl cu li ld fb) sz) := by
  refine Met.ofW (cc := cX1_appendFibonacci) (maxL := 7) (ret := none) (by decide) rfl ?_
  intro p e s m args below meth c s₁ B hml hv
  obtain ⟨rfl, ⟨hsz, hP, hK, hD0⟩, hN⟩ := hv
  have hx := B.exec
  have hb := B.bytes
  have hr := B.returns
  have hts := atoms_spec (ws := wsX1_appendFibonacci) B.pre
  have hown : s.vm.findClass RX1 = some m.cls := findClass_of_methodNamed B.named
  have hlocks := B.notSynchronized
  have C0 := jCx.of hx hb hr hml hown hts hlocks
  subst hsz
  have hD := hD0.self (sz := s.heap.size)
  generalize hAe : va_A (wC cJ b1 b0 bw bq bf w en pl cu li ld fb) s.heap.size = A at hD ⊢
  have hA : ∀ q : Nat, s.heap.size ≤ q → A q := fun q h => by rw [← hAe]; exact Or.inr h
  have hS : va_S A s.heap s.heap [] := va_S.rf
  have hP : va_P (dC, dI) vwCl (wC cJ b1 b0 bw bq bf w en pl cu li ld fb) s.heap := hP
  have hl := lv_entry ([.ref b1, .long a1]) (n := 7) (Nat.le_of_ble_eq_true rfl)
  rw [lg_entry_eq]
  generalize (lg_sl ([.ref b1, .long a1]) ++ List.replicate (7 - (lg_sl ([.ref b1, .long a1])).length) Slot.unset).toArray = ls at hl ⊢
  have hl : lv_has ls 7 [(0, .ref b1), (1, .long a1)] := hl
  clear hD0 hAe
  unfold j_X1_appendFibonacci at hj
  refine lv_aload_n hx hb dX1_appendFibonacci_0 rfl (lv_at hl 0 rfl) ?_
  refine lv_lload_n hx hb dX1_appendFibonacci_1 rfl (lv_at hl 1 rfl) ?_
  obtain ⟨v1, hc, hj⟩ := ja_bd hj
  try dsimp only at hj
  have hPc := hP.sub (ws' := (wC cJ b1 b0 bw bq bf w en pl cu li ld fb)) [0, 1, 2, 3, 4] rfl
  have hDc := hD.sub (ws' := (wC cJ b1 b0 bw bq bf w en pl cu li ld fb)) [0, 1, 2, 3, 4] (by decide) rfl
  have hFc := va_free (wc := (wC cJ b1 b0 bw bq bf w en pl cu li ld fb)) hD hS hA [0, 1, 2, 3, 4] rfl
  refine va_calli (va_runV (As := [.long a1]) (rest := []) ⟨hx, hb, hml, hown, hts⟩ (c_X1_fibonacciLength l dC dI cI cJ b1 b0 bw bq bf s.heap.size w en pl cu li ld fb a1 _ hc) (cwV 1 hts gX1_appendFibonacci_X1_fibonacciLength rfl rfl rfl (by decide +kernel) ⟨Nat.le_of_ble_eq_true rfl, Nat.le_of_ble_eq_true rfl⟩) ⟨fun a U g mk q => ⟨q.1, jPr.blind q.2.1, jNs.blind q.2.2⟩, va_recv hK hPc (ci := 1) (q0 := 0) rfl rfl, fun U hU hW => ⟨rfl, jPr.mk hU hW hPc hK hDc, jNs.warm hW hN⟩⟩ rfl rfl hl.1 rfl (lv_room (Nat.le_of_ble_eq_true rfl)) dX1_appendFibonacci_2 ⟨Nat.le_of_ble_eq_true rfl, Nat.le_of_ble_eq_true rfl⟩) hS (fun q _ h => hFc q h) hFc (fun rr u t H1 locs ht hvm hw9 hB hz1 hk1 hS => ?_)
  have hw8 : v1 = rr := hw9.symm
  subst hw8
  obtain ⟨hP1, hK1, hD1⟩ := hB
  rw [ht] at hP1
  obtain ⟨hP, hD⟩ := va_join (wr := ([] : va_W)) (w1 := (wC cJ b1 b0 bw bq bf w en pl cu li ld fb)) hP hD [0, 1, 2, 3, 4] [] rfl rfl (by decide) (by decide) hk1 hFc hP1 hD1
  clear hk1 hP1 hK1 hD1 hvm hz1 hPc hDc hFc
  generalize H1 = H at hP hS ⊢
  have hP : va_P (dC, dI) vwCl (wC cJ b1 b0 bw bq bf w en pl cu li ld fb) H := hP
  have hD : va_D A (wC cJ b1 b0 bw bq bf w en pl cu li ld fb) := hD
  refine lv_istore_n (lv' := [(3, .int v1), (0, .ref b1), (1, .long a1)]) hx hb dX1_appendFibonacci_5 rfl hl (by decide) rfl (fun ls hl => ?_)
  refine lv_lload_n hx hb dX1_appendFibonacci_6 rfl (lv_at hl 2 rfl) ?_
  refine lv_lstore (lv' := [(4, .long a1), (3, .int v1), (0, .ref b1), (1, .long a1)]) hx hb dX1_appendFibonacci_7 hl (by decide) rfl (fun ls hl => ?_)
  refine lv_iload_n hx hb dX1_appendFibonacci_9 rfl (lv_at hl 1 rfl) ?_
  refine lv_iconst (v := (2 : Int32)) hx hb dX1_appendFibonacci_10 (by decide) ?_
  refine lv_isub hx hb dX1_appendFibonacci_11 ?_
  refine lv_istore (lv' := [(6, .int (v1 - (2 : Int32))), (4, .long a1), (3, .int v1), (0, .ref b1), (1, .long a1)]) hx hb dX1_appendFibonacci_12 hl (by decide) rfl (fun ls hl => ?_)
  exact s_X1_appendFibonacci_14 C0 hK hA hN b1 b0 bw bq bf en pl cu li ld fb v1 jF a1 (v1 - (2 : Int32)) w _ hj _ _ _ (hP) (hD) hS (lv_sub hl [3, 2, 1, 0] rfl)

set_option maxRecDepth 100000 in
theorem inn_X1_appendGolomb_X1 : ∀ w ∈ u_ws RX1 TX1 4, w ∈ wsX1_appendGolomb := by decide +kernel
def j_X1_appendGolomb (w : Nat → Int64) (en : Int32) (a1 : Int32) (a2 : Int64) : Option ((Nat → Int64) × Int32) :=
  jdvJ a1.toInt64 ((j_X0_appendOnesAndZero w en ((a2 - (1 : Int64)) / a1.toInt64)).bind fun (v1, v2) => (jdvJ a1.toInt64 ((j_X1_golombWidth a1).bind fun v3 => ((j_X1_golombShortRests a1 v3).bind fun v4 => (if v4 ≤ ((a2 - (1 : Int64)) - (a2 - (1 : Int64)) / a1.toInt64 * a1.toInt64) then ((j_X0_appendBits v1 v2 (((a2 - (1 : Int64)) - (a2 - (1 : Int64)) / a1.toInt64 * a1.toInt64) + v4) v3).bind fun (v6, v7) => (some (v6, v7))) else ((j_X0_appendBits v1 v2 ((a2 - (1 : Int64)) - (a2 - (1 : Int64)) / a1.toInt64 * a1.toInt64) (v3 - (1 : Int32))).bind fun (v8, v9) => (some (v8, v9))))))))
set_option maxHeartbeats 4000000 in
set_option maxRecDepth 100000 in
theorem c_X1_appendGolomb (l : Launch) (dC : Nat → ClassId) (dI : Nat → Nat → Nat) (cI cJ : ClassId) (b1 : Nat) (b0 : Nat) (bw : Nat) (bq : Nat) (bf : Nat) (sz : Nat) (w : Nat → Int64) (en : Int32) (pl : Int32) (cu : Int32) (li : Nat → Int64) (ld : Int32) (fb : Nat → Int64) (a1 : Int32) (a2 : Int64) (r : (Nat → Int64) × Int32) (hj : j_X1_appendGolomb w en a1 a2 = some r) : Met l yX1_appendGolomb wsX1_appendGolomb ({ frames := 4, cells := 0, slots := 0, locals := 84 } : Room) (va_Pc [.ref b1, .int a1, .long a2] (fun U => jPr dC dI cI cJ (wC cJ b1 b0 bw bq bf w en pl cu li ld fb) sz U ∧ jNs U)) (va_Qv (fun _ : Unit => True) (fun (_ : Unit) t => jPo dC dI cI cJ (wC cJ b1 b0 bw bq bf r.1 r.2 pl cu li ld fb) (va_A (wC cJ b1 b0 bw bq bf w en pl cu li ld fb) sz) t) (va_A (wC cJ b1 b0 bw bq bf w en pl cu li ld fb) sz)) 0 0 (va_A (wC cJ b1 b0 bw bq bf w en pl cu li ld fb) sz) := by
  refine Met.ofW (cc := cX1_appendGolomb) (maxL := 9) (ret := none) (by decide) rfl ?_
  intro p e s m args below meth c s₁ B hml hv
  obtain ⟨rfl, ⟨hsz, hP, hK, hD0⟩, hN⟩ := hv
  have hx := B.exec
  have hb := B.bytes
  have hr := B.returns
  have hts := atoms_spec (ws := wsX1_appendGolomb) B.pre
  have hown : s.vm.findClass RX1 = some m.cls := findClass_of_methodNamed B.named
  have hlocks := B.notSynchronized
  have C0 := jCx.of hx hb hr hml hown hts hlocks
  subst hsz
  have hD := hD0.self (sz := s.heap.size)
  generalize hAe : va_A (wC cJ b1 b0 bw bq bf w en pl cu li ld fb) s.heap.size = A at hD ⊢
  have hA : ∀ q : Nat, s.heap.size ≤ q → A q := fun q h => by rw [← hAe]; exact Or.inr h
  have hS : va_S A s.heap s.heap [] := va_S.rf
  have hP : va_P (dC, dI) vwCl (wC cJ b1 b0 bw bq bf w en pl cu li ld fb) s.heap := hP
  have hl := lv_entry ([.ref b1, .int a1, .long a2]) (n := 9) (Nat.le_of_ble_eq_true rfl)
  rw [lg_entry_eq]
  generalize (lg_sl ([.ref b1, .int a1, .long a2]) ++ List.replicate (9 - (lg_sl ([.ref b1, .int a1, .long a2])).length) Slot.unset).toArray = ls at hl ⊢
  have hl : lv_has ls 9 [(0, .ref b1), (1, .int a1), (2, .long a2)] := hl
  clear hD0 hAe
  unfold j_X1_appendGolomb at hj
  refine lv_aload_n hx hb dX1_appendGolomb_0 rfl (lv_at hl 0 rfl) ?_
  refine va_get (D := (dC, dI)) (ci := 1) (v := .ref b0) (C := RX1) (T := TX1) (N := 4) hx hb hts inn_X1_appendGolomb_X1 hown hK hP 0 rfl rfl 0 (by decide) (hts (.fieldLink RX1 12 "SelfEndingCodes" "row" "LSelfEndingCodes$BitRow;") (by decide +kernel)) (fun _ h9 => h9) rfl dX1_appendGolomb_1 ?_
  refine lv_lload_n hx hb dX1_appendGolomb_4 rfl (lv_at hl 2 rfl) ?_
  refine lv_lconst (v := (1 : Int64)) hx hb dX1_appendGolomb_5 (by decide) ?_
  refine lv_lsub hx hb dX1_appendGolomb_6 ?_
  refine lv_iload_n hx hb dX1_appendGolomb_7 rfl (lv_at hl 1 rfl) ?_
  refine lv_i2l hx hb dX1_appendGolomb_8 rfl ?_
  obtain ⟨hne, hj⟩ := ja_dvJ hj
  refine lv_ldiv hx hb dX1_appendGolomb_9 hne ?_
  obtain ⟨⟨v1, v2⟩, hc, hj⟩ := ja_bd hj
  try dsimp only at hj
  have hPc := hP.sub (ws' := (wB cJ b0 bw w en pl cu)) [1, 2] rfl
  have hDc := hD.sub (ws' := (wB cJ b0 bw w en pl cu)) [1, 2] (by decide) rfl
  have hFc := va_free (wc := (wB cJ b0 bw w en pl cu)) hD hS hA [1, 2] rfl
  refine va_callv (va_runV (As := [.long ((a2 - (1 : Int64)) / a1.toInt64)]) (rest := []) ⟨hx, hb, hml, hown, hts⟩ (c_X0_appendOnesAndZero l dC dI cI cJ b0 bw s.heap.size w en pl cu ((a2 - (1 : Int64)) / a1.toInt64) _ hc) (cwV 1 hts gX1_appendGolomb_X0_appendOnesAndZero rfl rfl rfl (by decide +kernel) ⟨Nat.le_of_ble_eq_true rfl, Nat.le_of_ble_eq_true rfl⟩) ⟨fun a U g mk q => ⟨q.1, jPr.blind q.2⟩, va_recv hK hPc (ci := 0) (q0 := 0) rfl rfl, fun U hU hW => ⟨rfl, jPr.mk hU hW hPc hK hDc⟩⟩ rfl rfl hl.1 rfl (lv_room (Nat.le_of_ble_eq_true rfl)) dX1_appendGolomb_10 ⟨Nat.le_of_ble_eq_true rfl, Nat.le_of_ble_eq_true rfl⟩) hS (fun q _ h => hFc q h) hFc (fun u t H1 locs ht hvm hw9 hB hz1 hk1 hS => ?_)
  obtain ⟨hP1, hK1, hD1⟩ := hB
  rw [ht] at hP1
  obtain ⟨hP, hD⟩ := va_join (wr := ([(b1, .inr (1, [.ref b0, .ref bq, .ref bf, .int ld])), (bq, .inl (cJ, 100, .inr (.inl li))), (bf, .inl (cJ, 89, .inr (.inl fb)))] : va_W)) (w1 := (wB cJ b0 bw v1 v2 pl cu)) hP hD [1, 2] [0, 3, 4] rfl rfl (by decide) (by decide) hk1 hFc hP1 hD1
  replace hP := hP.sub (ws' := (wC cJ b1 b0 bw bq bf v1 v2 pl cu li ld fb)) [0, 3, 4, 1, 2] rfl
  replace hD := hD.sub (ws' := (wC cJ b1 b0 bw bq bf v1 v2 pl cu li ld fb)) [0, 3, 4, 1, 2] (by decide) rfl
  clear hk1 hP1 hK1 hD1 hvm hz1 hPc hDc hFc
  generalize H1 = H at hP hS ⊢
  have hP : va_P (dC, dI) vwCl (wC cJ b1 b0 bw bq bf v1 v2 pl cu li ld fb) H := hP
  have hD : va_D A (wC cJ b1 b0 bw bq bf v1 v2 pl cu li ld fb) := hD
  refine lv_lload_n hx hb dX1_appendGolomb_13 rfl (lv_at hl 2 rfl) ?_
  refine lv_lconst (v := (1 : Int64)) hx hb dX1_appendGolomb_14 (by decide) ?_
  refine lv_lsub hx hb dX1_appendGolomb_15 ?_
  refine lv_iload_n hx hb dX1_appendGolomb_16 rfl (lv_at hl 1 rfl) ?_
  refine lv_i2l hx hb dX1_appendGolomb_17 rfl ?_
  obtain ⟨hne, hj⟩ := ja_dvJ hj
  refine lv_lrem hx hb dX1_appendGolomb_18 hne ?_
  refine lv_lstore (lv' := [(4, .long ((a2 - (1 : Int64)) - (a2 - (1 : Int64)) / a1.toInt64 * a1.toInt64)), (0, .ref b1), (1, .int a1), (2, .long a2)]) hx hb dX1_appendGolomb_19 hl (by decide) rfl (fun ls hl => ?_)
  refine lv_iload_n hx hb dX1_appendGolomb_21 rfl (lv_at hl 2 rfl) ?_
  obtain ⟨v3, hc, hj⟩ := ja_bd hj
  try dsimp only at hj
  have hPc := hP.sub (ws' := ([] : va_W)) [] rfl
  have hDc := hD.sub (ws' := ([] : va_W)) [] (by decide) rfl
  have hFc := va_free (wc := ([] : va_W)) hD hS hA [] rfl
  refine va_calli (va_runS (As := [.int a1]) (rest := []) ⟨hx, hb, hml, hown, hts⟩ (c_X1_golombWidth l dC dI cI cJ H.size a1 _ hc) (va_cwS 1 hts gX1_appendGolomb_X1_golombWidth rfl rfl rfl (by decide +kernel) ⟨Nat.le_of_ble_eq_true rfl, Nat.le_of_ble_eq_true rfl⟩) ⟨fun a U g mk q => ⟨q.1, jPr.blind q.2⟩, fun U hU hW => ⟨rfl, jPr.mk hU hW hPc hK hDc⟩⟩ rfl rfl hl.1 rfl (lv_room (Nat.le_of_ble_eq_true rfl)) dX1_appendGolomb_22 ⟨Nat.le_of_ble_eq_true rfl, Nat.le_of_ble_eq_true rfl⟩) hS (fun q _ h => hFc q h) hFc (fun rr u t H1 locs ht hvm hw9 hB hz1 hk1 hS => ?_)
  have hw8 : v3 = rr := hw9.symm
  subst hw8
  obtain ⟨hP1, hK1, hD1⟩ := hB
  rw [ht] at hP1
  obtain ⟨hP, hD⟩ := va_join (wr := ([(b1, .inr (1, [.ref b0, .ref bq, .ref bf, .int ld])), (b0, .inr (0, [.ref bw, .int v2, .int pl, .int cu])), (bw, .inl (cJ, 64, .inr (.inl v1))), (bq, .inl (cJ, 100, .inr (.inl li))), (bf, .inl (cJ, 89, .inr (.inl fb)))] : va_W)) (w1 := ([] : va_W)) hP hD [] [0, 1, 2, 3, 4] rfl rfl (by decide) (by decide) hk1 hFc hP1 hD1
  clear hk1 hP1 hK1 hD1 hvm hz1 hPc hDc hFc
  generalize H1 = H at hP hS ⊢
  have hP : va_P (dC, dI) vwCl (wC cJ b1 b0 bw bq bf v1 v2 pl cu li ld fb) H := hP
  have hD : va_D A (wC cJ b1 b0 bw bq bf v1 v2 pl cu li ld fb) := hD
  refine lv_istore (lv' := [(6, .int v3), (4, .long ((a2 - (1 : Int64)) - (a2 - (1 : Int64)) / a1.toInt64 * a1.toInt64)), (0, .ref b1), (1, .int a1), (2, .long a2)]) hx hb dX1_appendGolomb_25 hl (by decide) rfl (fun ls hl => ?_)
  refine lv_iload_n hx hb dX1_appendGolomb_27 rfl (lv_at hl 3 rfl) ?_
  refine lv_iload hx hb dX1_appendGolomb_28 (lv_at hl 0 rfl) ?_
  obtain ⟨v4, hc, hj⟩ := ja_bd hj
  try dsimp only at hj
  have hPc := hP.sub (ws' := ([] : va_W)) [] rfl
  have hDc := hD.sub (ws' := ([] : va_W)) [] (by decide) rfl
  have hFc := va_free (wc := ([] : va_W)) hD hS hA [] rfl
  refine va_calll (va_runS (As := [.int a1, .int v3]) (rest := []) ⟨hx, hb, hml, hown, hts⟩ (c_X1_golombShortRests l dC dI cI cJ H.size a1 v3 _ hc) (va_cwS 2 hts gX1_appendGolomb_X1_golombShortRests rfl rfl rfl (by decide +kernel) ⟨Nat.le_of_ble_eq_true rfl, Nat.le_of_ble_eq_true rfl⟩) ⟨fun a U g mk q => ⟨q.1, jPr.blind q.2⟩, fun U hU hW => ⟨rfl, jPr.mk hU hW hPc hK hDc⟩⟩ rfl rfl hl.1 rfl (lv_room (Nat.le_of_ble_eq_true rfl)) dX1_appendGolomb_30 ⟨Nat.le_of_ble_eq_true rfl, Nat.le_of_ble_eq_true rfl⟩) hS (fun q _ h => hFc q h) hFc (fun rr u t H1 locs ht hvm hw9 hB hz1 hk1 hS => ?_)
  have hw8 : v4 = rr := hw9.symm
  subst hw8
  obtain ⟨hP1, hK1, hD1⟩ := hB
  rw [ht] at hP1
  obtain ⟨hP, hD⟩ := va_join (wr := ([(b1, .inr (1, [.ref b0, .ref bq, .ref bf, .int ld])), (b0, .inr (0, [.ref bw, .int v2, .int pl, .int cu])), (bw, .inl (cJ, 64, .inr (.inl v1))), (bq, .inl (cJ, 100, .inr (.inl li))), (bf, .inl (cJ, 89, .inr (.inl fb)))] : va_W)) (w1 := ([] : va_W)) hP hD [] [0, 1, 2, 3, 4] rfl rfl (by decide) (by decide) hk1 hFc hP1 hD1
  clear hk1 hP1 hK1 hD1 hvm hz1 hPc hDc hFc
  generalize H1 = H at hP hS ⊢
  have hP : va_P (dC, dI) vwCl (wC cJ b1 b0 bw bq bf v1 v2 pl cu li ld fb) H := hP
  have hD : va_D A (wC cJ b1 b0 bw bq bf v1 v2 pl cu li ld fb) := hD
  refine lv_lstore (lv' := [(7, .long v4), (6, .int v3), (4, .long ((a2 - (1 : Int64)) - (a2 - (1 : Int64)) / a1.toInt64 * a1.toInt64)), (0, .ref b1), (1, .int a1), (2, .long a2)]) hx hb dX1_appendGolomb_33 hl (by decide) rfl (fun ls hl => ?_)
  refine lv_lload hx hb dX1_appendGolomb_35 (lv_at hl 2 rfl) ?_
  refine lv_lload hx hb dX1_appendGolomb_37 (lv_at hl 0 rfl) ?_
  refine W.lcmp hx hb dX1_appendGolomb_39 ?_
  refine lv_if_ge (tgt := 59) hx hb dX1_appendGolomb_40 (by decide) (fun c5 => ?_) (fun c5 => ?_)
  · replace hj := ja_pos ((lg_cmp_ge ((a2 - (1 : Int64)) - (a2 - (1 : Int64)) / a1.toInt64 * a1.toInt64) v4).mp c5) hj
    refine lv_aload_n hx hb dX1_appendGolomb_59 rfl (lv_at hl 3 rfl) ?_
    refine va_get (D := (dC, dI)) (ci := 1) (v := .ref b0) (C := RX1) (T := TX1) (N := 4) hx hb hts inn_X1_appendGolomb_X1 hown hK hP 0 rfl rfl 0 (by decide) (hts (.fieldLink RX1 12 "SelfEndingCodes" "row" "LSelfEndingCodes$BitRow;") (by decide +kernel)) (fun _ h9 => h9) rfl dX1_appendGolomb_60 ?_
    refine lv_lload hx hb dX1_appendGolomb_63 (lv_at hl 2 rfl) ?_
    refine lv_lload hx hb dX1_appendGolomb_65 (lv_at hl 0 rfl) ?_
    refine lv_ladd hx hb dX1_appendGolomb_67 ?_
    refine lv_iload hx hb dX1_appendGolomb_68 (lv_at hl 1 rfl) ?_
    obtain ⟨⟨v6, v7⟩, hc, hj⟩ := ja_bd hj
    try dsimp only at hj
    have hPc := hP.sub (ws' := (wB cJ b0 bw v1 v2 pl cu)) [1, 2] rfl
    have hDc := hD.sub (ws' := (wB cJ b0 bw v1 v2 pl cu)) [1, 2] (by decide) rfl
    have hFc := va_free (wc := (wB cJ b0 bw v1 v2 pl cu)) hD hS hA [1, 2] rfl
    refine va_callv (va_runV (As := [.long (((a2 - (1 : Int64)) - (a2 - (1 : Int64)) / a1.toInt64 * a1.toInt64) + v4), .int v3]) (rest := []) ⟨hx, hb, hml, hown, hts⟩ (c_X0_appendBits l dC dI cI cJ b0 bw H.size v1 v2 pl cu (((a2 - (1 : Int64)) - (a2 - (1 : Int64)) / a1.toInt64 * a1.toInt64) + v4) v3 _ hc) (cwV 2 hts gX1_appendGolomb_X0_appendBits rfl rfl rfl (by decide +kernel) ⟨Nat.le_of_ble_eq_true rfl, Nat.le_of_ble_eq_true rfl⟩) ⟨fun a U g mk q => ⟨q.1, jPr.blind q.2⟩, va_recv hK hPc (ci := 0) (q0 := 0) rfl rfl, fun U hU hW => ⟨rfl, jPr.mk hU hW hPc hK hDc⟩⟩ rfl rfl hl.1 rfl (lv_room (Nat.le_of_ble_eq_true rfl)) dX1_appendGolomb_70 ⟨Nat.le_of_ble_eq_true rfl, Nat.le_of_ble_eq_true rfl⟩) hS (fun q _ h => hFc q h) hFc (fun u t H1 locs ht hvm hw9 hB hz1 hk1 hS => ?_)
    obtain ⟨hP1, hK1, hD1⟩ := hB
    rw [ht] at hP1
    obtain ⟨hP, hD⟩ := va_join (wr := ([(b1, .inr (1, [.ref b0, .ref bq, .ref bf, .int ld])), (bq, .inl (cJ, 100, .inr (.inl li))), (bf, .inl (cJ, 89, .inr (.inl fb)))] : va_W)) (w1 := (wB cJ b0 bw v6 v7 pl cu)) hP hD [1, 2] [0, 3, 4] rfl rfl (by decide) (by decide) hk1 hFc hP1 hD1
    replace hP := hP.sub (ws' := (wC cJ b1 b0 bw bq bf v6 v7 pl cu li ld fb)) [0, 3, 4, 1, 2] rfl
    replace hD := hD.sub (ws' := (wC cJ b1 b0 bw bq bf v6 v7 pl cu li ld fb)) [0, 3, 4, 1, 2] (by decide) rfl
    clear hk1 hP1 hK1 hD1 hvm hz1 hPc hDc hFc
    generalize H1 = H at hP hS ⊢
    have hP : va_P (dC, dI) vwCl (wC cJ b1 b0 bw bq bf v6 v7 pl cu li ld fb) H := hP
    have hD : va_D A (wC cJ b1 b0 bw bq bf v6 v7 pl cu li ld fb) := hD
    have hr9 : (v6, v7) = r := Option.some.inj hj
    subst hr9
    exact W.vret hx hb hr (fun t ht hW => ⟨⟨(), rfl, trivial, by rw [ht]; exact hP, va_K.moved hW.alike hK, hD⟩, hS.F ht⟩) hS.2.2 dX1_appendGolomb_73
  · replace hj := ja_neg (fun h9 => c5 ((lg_cmp_ge ((a2 - (1 : Int64)) - (a2 - (1 : Int64)) / a1.toInt64 * a1.toInt64) v4).mpr h9)) hj
    refine lv_aload_n hx hb dX1_appendGolomb_43 rfl (lv_at hl 3 rfl) ?_
    refine va_get (D := (dC, dI)) (ci := 1) (v := .ref b0) (C := RX1) (T := TX1) (N := 4) hx hb hts inn_X1_appendGolomb_X1 hown hK hP 0 rfl rfl 0 (by decide) (hts (.fieldLink RX1 12 "SelfEndingCodes" "row" "LSelfEndingCodes$BitRow;") (by decide +kernel)) (fun _ h9 => h9) rfl dX1_appendGolomb_44 ?_
    refine lv_lload hx hb dX1_appendGolomb_47 (lv_at hl 2 rfl) ?_
    refine lv_iload hx hb dX1_appendGolomb_49 (lv_at hl 1 rfl) ?_
    refine lv_iconst (v := (1 : Int32)) hx hb dX1_appendGolomb_51 (by decide) ?_
    refine lv_isub hx hb dX1_appendGolomb_52 ?_
    obtain ⟨⟨v8, v9⟩, hc, hj⟩ := ja_bd hj
    try dsimp only at hj
    have hPc := hP.sub (ws' := (wB cJ b0 bw v1 v2 pl cu)) [1, 2] rfl
    have hDc := hD.sub (ws' := (wB cJ b0 bw v1 v2 pl cu)) [1, 2] (by decide) rfl
    have hFc := va_free (wc := (wB cJ b0 bw v1 v2 pl cu)) hD hS hA [1, 2] rfl
    refine va_callv (va_runV (As := [.long ((a2 - (1 : Int64)) - (a2 - (1 : Int64)) / a1.toInt64 * a1.toInt64), .int (v3 - (1 : Int32))]) (rest := []) ⟨hx, hb, hml, hown, hts⟩ (c_X0_appendBits l dC dI cI cJ b0 bw H.size v1 v2 pl cu ((a2 - (1 : Int64)) - (a2 - (1 : Int64)) / a1.toInt64 * a1.toInt64) (v3 - (1 : Int32)) _ hc) (cwV 2 hts gX1_appendGolomb_X0_appendBits rfl rfl rfl (by decide +kernel) ⟨Nat.le_of_ble_eq_true rfl, Nat.le_of_ble_eq_true rfl⟩) ⟨fun a U g mk q => ⟨q.1, jPr.blind q.2⟩, va_recv hK hPc (ci := 0) (q0 := 0) rfl rfl, fun U hU hW => ⟨rfl, jPr.mk hU hW hPc hK hDc⟩⟩ rfl rfl hl.1 rfl (lv_room (Nat.le_of_ble_eq_true rfl)) dX1_appendGolomb_53 ⟨Nat.le_of_ble_eq_true rfl, Nat.le_of_ble_eq_true rfl⟩) hS (fun q _ h => hFc q h) hFc (fun u t H1 locs ht hvm hw9 hB hz1 hk1 hS => ?_)
    obtain ⟨hP1, hK1, hD1⟩ := hB
    rw [ht] at hP1
    obtain ⟨hP, hD⟩ := va_join (wr := ([(b1, .inr (1, [.ref b0, .ref bq, .ref bf, .int ld])), (bq, .inl (cJ, 100, .inr (.inl li))), (bf, .inl (cJ, 89, .inr (.inl fb)))] : va_W)) (w1 := (wB cJ b0 bw v8 v9 pl cu)) hP hD [1, 2] [0, 3, 4] rfl rfl (by decide) (by decide) hk1 hFc hP1 hD1
    replace hP := hP.sub (ws' := (wC cJ b1 b0 bw bq bf v8 v9 pl cu li ld fb)) [0, 3, 4, 1, 2] rfl
    replace hD := hD.sub (ws' := (wC cJ b1 b0 bw bq bf v8 v9 pl cu li ld fb)) [0, 3, 4, 1, 2] (by decide) rfl
    clear hk1 hP1 hK1 hD1 hvm hz1 hPc hDc hFc
    generalize H1 = H at hP hS ⊢
    have hP : va_P (dC, dI) vwCl (wC cJ b1 b0 bw bq bf v8 v9 pl cu li ld fb) H := hP
    have hD : va_D A (wC cJ b1 b0 bw bq bf v8 v9 pl cu li ld fb) := hD
    refine lv_goto (tgt := 73) hx hb dX1_appendGolomb_56 (by decide) ?_
    have hr9 : (v8, v9) = r := Option.some.inj hj
    subst hr9
    exact W.vret hx hb hr (fun t ht hW => ⟨⟨(), rfl, trivial, by rw [ht]; exact hP, va_K.moved hW.alike hK, hD⟩, hS.F ht⟩) hS.2.2 dX1_appendGolomb_73

set_option maxRecDepth 100000 in
theorem inn_X1_appendGroups_X1 : ∀ w ∈ u_ws RX1 TX1 4, w ∈ wsX1_appendGroups := by decide +kernel
def jL_X1_appendGroups_15 (x1 : Int32) (x4 : Int32) : Nat → Int64 → Int32 → (Nat → Int64) → Int32 → Option ((Nat → Int64) × Int32)
  | 0, _, _, _, _ => none
  | n + 1, x5, x7, w, en => if x4 < x7 then (some (w, en)) else (if x4 ≤ x7 then ((j_X0_appendBits w en (0 : Int64) (1 : Int32)).bind fun (v1503, v1504) => ((j_X0_appendBits v1503 v1504 x5 x1).bind fun (v1505, v1506) => (jL_X1_appendGroups_15 x1 x4 n (x5 >>> (x1.toInt64 &&& 63)) (x7 + (1 : Int32)) v1505 v1506))) else ((j_X0_appendBits w en (1 : Int64) (1 : Int32)).bind fun (v1507, v1508) => ((j_X0_appendBits v1507 v1508 x5 x1).bind fun (v1509, v1510) => (jL_X1_appendGroups_15 x1 x4 n (x5 >>> (x1.toInt64 &&& 63)) (x7 + (1 : Int32)) v1509 v1510))))
set_option maxHeartbeats 4000000 in
set_option maxRecDepth 100000 in
theorem s_X1_appendGroups_15 {p : Program} {l : Launch} {e : Env} {s : State} {m : MethodId} {args : Array Value} {below : List Frame} {meth : Method} {c : Code} {dC : Nat → ClassId} {dI : Nat → Nat → Nat} {cI cJ : ClassId} {A : Nat → Prop} (C0 : jCx p s m args meth c RX1 cX1_appendGroups 8 none wsX1_appendGroups) (hK : va_K (dC, dI) vwCl (jTy cI cJ) s) (hA : ∀ q : Nat, s.heap.size ≤ q → A q) (hN : jNs s) (b1 : Nat) (b0 : Nat) (bw : Nat) (bq : Nat) (bf : Nat) (pl : Int32) (cu : Int32) (li : Nat → Int64) (ld : Int32) (fb : Nat → Int64) (x1 : Int32) (x4 : Int32) :
    ∀ (n : Nat) (x5 : Int64) (x7 : Int32) (w : Nat → Int64) (en : Int32) (r : (Nat → Int64) × Int32), jL_X1_appendGroups_15 x1 x4 n x5 x7 w en = some r → ∀ (H : Heap) (locs : List Loc) (ls : Array Slot), va_P (dC, dI) vwCl (wC cJ b1 b0 bw bq bf w en pl cu li ld fb) H → va_D A (wC cJ b1 b0 bw bq bf w en pl cu li ld fb) → va_S A s.heap H locs → lv_has ls 8 [(0, .ref b1), (1, .int x1), (4, .int x4), (5, .long x5), (7, .int x7)] → W p l e ({ frames := 4, cells := 0, slots := 0, locals := 86 } : Room) s m args below meth c H locs 0 0 (MQ below (va_Qv (fun _ : Unit => True) (fun (_ : Unit) t => jPo dC dI cI cJ (wC cJ b1 b0 bw bq bf r.1 r.2 pl cu li ld fb) A t) A) args s 0 0 A) (F0 m 15 ls []) := by
  obtain ⟨hx, hb, hr, hml, hown, hts, hlocks⟩ := id C0
  intro n
  induction n with
  | zero =>
    intro x5 x7 w en r hj
    exact nomatch (show (none : Option ((Nat → Int64) × Int32)) = some r from hj)
  | succ n ih =>
    intro x5 x7 w en r hj H locs ls hP hD hS hl
    replace hj : (if x4 < x7 then (some (w, en)) else (if x4 ≤ x7 then ((j_X0_appendBits w en (0 : Int64) (1 : Int32)).bind fun (v1503, v1504) => ((j_X0_appendBits v1503 v1504 x5 x1).bind fun (v1505, v1506) => (jL_X1_appendGroups_15 x1 x4 n (x5 >>> (x1.toInt64 &&& 63)) (x7 + (1 : Int32)) v1505 v1506))) else ((j_X0_appendBits w en (1 : Int64) (1 : Int32)).bind fun (v1507, v1508) => ((j_X0_appendBits v1507 v1508 x5 x1).bind fun (v1509, v1510) => (jL_X1_appendGroups_15 x1 x4 n (x5 >>> (x1.toInt64 &&& 63)) (x7 + (1 : Int32)) v1509 v1510))))) = some r := hj
    refine lv_iload hx hb dX1_appendGroups_15 (lv_at hl 4 rfl) ?_
    refine lv_iload hx hb dX1_appendGroups_17 (lv_at hl 2 rfl) ?_
    refine lv_icmp_gt (tgt := 64) hx hb dX1_appendGroups_19 (by decide) (fun c1501 => ?_) (fun c1501 => ?_)
    · replace hj := ja_pos c1501 hj
      have hr9 : (w, en) = r := Option.some.inj hj
      subst hr9
      exact W.vret hx hb hr (fun t ht hW => ⟨⟨(), rfl, trivial, by rw [ht]; exact hP, va_K.moved hW.alike hK, hD⟩, hS.F ht⟩) hS.2.2 dX1_appendGroups_64
    · replace hj := ja_neg c1501 hj
      refine lv_aload_n hx hb dX1_appendGroups_22 rfl (lv_at hl 0 rfl) ?_
      refine va_get (D := (dC, dI)) (ci := 1) (v := .ref b0) (C := RX1) (T := TX1) (N := 4) hx hb hts inn_X1_appendGroups_X1 hown hK hP 0 rfl rfl 0 (by decide) (hts (.fieldLink RX1 12 "SelfEndingCodes" "row" "LSelfEndingCodes$BitRow;") (by decide +kernel)) (fun _ h9 => h9) rfl dX1_appendGroups_23 ?_
      refine lv_iload hx hb dX1_appendGroups_26 (lv_at hl 4 rfl) ?_
      refine lv_iload hx hb dX1_appendGroups_28 (lv_at hl 2 rfl) ?_
      refine lv_icmp_ge (tgt := 37) hx hb dX1_appendGroups_30 (by decide) (fun c1502 => ?_) (fun c1502 => ?_)
      · replace hj := ja_pos c1502 hj
        refine lv_lconst (v := (0 : Int64)) hx hb dX1_appendGroups_37 (by decide) ?_
        refine lv_iconst (v := (1 : Int32)) hx hb dX1_appendGroups_38 (by decide) ?_
        obtain ⟨⟨v1503, v1504⟩, hc, hj⟩ := ja_bd hj
        try dsimp only at hj
        have hPc := hP.sub (ws' := (wB cJ b0 bw w en pl cu)) [1, 2] rfl
        have hDc := hD.sub (ws' := (wB cJ b0 bw w en pl cu)) [1, 2] (by decide) rfl
        have hFc := va_free (wc := (wB cJ b0 bw w en pl cu)) hD hS hA [1, 2] rfl
        refine va_callv (va_runV (As := [.long (0 : Int64), .int (1 : Int32)]) (rest := []) ⟨hx, hb, hml, hown, hts⟩ (c_X0_appendBits l dC dI cI cJ b0 bw H.size w en pl cu (0 : Int64) (1 : Int32) _ hc) (cwV 2 hts gX1_appendGroups_X0_appendBits rfl rfl rfl (by decide +kernel) ⟨Nat.le_of_ble_eq_true rfl, Nat.le_of_ble_eq_true rfl⟩) ⟨fun a U g mk q => ⟨q.1, jPr.blind q.2⟩, va_recv hK hPc (ci := 0) (q0 := 0) rfl rfl, fun U hU hW => ⟨rfl, jPr.mk hU hW hPc hK hDc⟩⟩ rfl rfl hl.1 rfl (lv_room (Nat.le_of_ble_eq_true rfl)) dX1_appendGroups_39 ⟨Nat.le_of_ble_eq_true rfl, Nat.le_of_ble_eq_true rfl⟩) hS (fun q _ h => hFc q h) hFc (fun u t H1 locs ht hvm hw9 hB hz1 hk1 hS => ?_)
        obtain ⟨hP1, hK1, hD1⟩ := hB
        rw [ht] at hP1
        obtain ⟨hP, hD⟩ := va_join (wr := ([(b1, .inr (1, [.ref b0, .ref bq, .ref bf, .int ld])), (bq, .inl (cJ, 100, .inr (.inl li))), (bf, .inl (cJ, 89, .inr (.inl fb)))] : va_W)) (w1 := (wB cJ b0 bw v1503 v1504 pl cu)) hP hD [1, 2] [0, 3, 4] rfl rfl (by decide) (by decide) hk1 hFc hP1 hD1
        replace hP := hP.sub (ws' := (wC cJ b1 b0 bw bq bf v1503 v1504 pl cu li ld fb)) [0, 3, 4, 1, 2] rfl
        replace hD := hD.sub (ws' := (wC cJ b1 b0 bw bq bf v1503 v1504 pl cu li ld fb)) [0, 3, 4, 1, 2] (by decide) rfl
        clear hk1 hP1 hK1 hD1 hvm hz1 hPc hDc hFc
        generalize H1 = H at hP hS ⊢
        have hP : va_P (dC, dI) vwCl (wC cJ b1 b0 bw bq bf v1503 v1504 pl cu li ld fb) H := hP
        have hD : va_D A (wC cJ b1 b0 bw bq bf v1503 v1504 pl cu li ld fb) := hD
        refine lv_aload_n hx hb dX1_appendGroups_42 rfl (lv_at hl 0 rfl) ?_
        refine va_get (D := (dC, dI)) (ci := 1) (v := .ref b0) (C := RX1) (T := TX1) (N := 4) hx hb hts inn_X1_appendGroups_X1 hown hK hP 0 rfl rfl 0 (by decide) (hts (.fieldLink RX1 12 "SelfEndingCodes" "row" "LSelfEndingCodes$BitRow;") (by decide +kernel)) (fun _ h9 => h9) rfl dX1_appendGroups_43 ?_
        refine lv_lload hx hb dX1_appendGroups_46 (lv_at hl 3 rfl) ?_
        refine lv_iload_n hx hb dX1_appendGroups_48 rfl (lv_at hl 1 rfl) ?_
        obtain ⟨⟨v1505, v1506⟩, hc, hj⟩ := ja_bd hj
        try dsimp only at hj
        have hPc := hP.sub (ws' := (wB cJ b0 bw v1503 v1504 pl cu)) [1, 2] rfl
        have hDc := hD.sub (ws' := (wB cJ b0 bw v1503 v1504 pl cu)) [1, 2] (by decide) rfl
        have hFc := va_free (wc := (wB cJ b0 bw v1503 v1504 pl cu)) hD hS hA [1, 2] rfl
        refine va_callv (va_runV (As := [.long x5, .int x1]) (rest := []) ⟨hx, hb, hml, hown, hts⟩ (c_X0_appendBits l dC dI cI cJ b0 bw H.size v1503 v1504 pl cu x5 x1 _ hc) (cwV 2 hts gX1_appendGroups_X0_appendBits rfl rfl rfl (by decide +kernel) ⟨Nat.le_of_ble_eq_true rfl, Nat.le_of_ble_eq_true rfl⟩) ⟨fun a U g mk q => ⟨q.1, jPr.blind q.2⟩, va_recv hK hPc (ci := 0) (q0 := 0) rfl rfl, fun U hU hW => ⟨rfl, jPr.mk hU hW hPc hK hDc⟩⟩ rfl rfl hl.1 rfl (lv_room (Nat.le_of_ble_eq_true rfl)) dX1_appendGroups_49 ⟨Nat.le_of_ble_eq_true rfl, Nat.le_of_ble_eq_true rfl⟩) hS (fun q _ h => hFc q h) hFc (fun u t H1 locs ht hvm hw9 hB hz1 hk1 hS => ?_)
        obtain ⟨hP1, hK1, hD1⟩ := hB
        rw [ht] at hP1
        obtain ⟨hP, hD⟩ := va_join (wr := ([(b1, .inr (1, [.ref b0, .ref bq, .ref bf, .int ld])), (bq, .inl (cJ, 100, .inr (.inl li))), (bf, .inl (cJ, 89, .inr (.inl fb)))] : va_W)) (w1 := (wB cJ b0 bw v1505 v1506 pl cu)) hP hD [1, 2] [0, 3, 4] rfl rfl (by decide) (by decide) hk1 hFc hP1 hD1
        replace hP := hP.sub (ws' := (wC cJ b1 b0 bw bq bf v1505 v1506 pl cu li ld fb)) [0, 3, 4, 1, 2] rfl
        replace hD := hD.sub (ws' := (wC cJ b1 b0 bw bq bf v1505 v1506 pl cu li ld fb)) [0, 3, 4, 1, 2] (by decide) rfl
        clear hk1 hP1 hK1 hD1 hvm hz1 hPc hDc hFc
        generalize H1 = H at hP hS ⊢
        have hP : va_P (dC, dI) vwCl (wC cJ b1 b0 bw bq bf v1505 v1506 pl cu li ld fb) H := hP
        have hD : va_D A (wC cJ b1 b0 bw bq bf v1505 v1506 pl cu li ld fb) := hD
        refine lv_lload hx hb dX1_appendGroups_52 (lv_at hl 3 rfl) ?_
        refine lv_iload_n hx hb dX1_appendGroups_54 rfl (lv_at hl 1 rfl) ?_
        refine lv_lshr hx hb dX1_appendGroups_55 rfl ?_
        refine lv_lstore (lv' := [(5, .long (x5 >>> (x1.toInt64 &&& 63))), (0, .ref b1), (1, .int x1), (4, .int x4), (7, .int x7)]) hx hb dX1_appendGroups_56 hl (by decide) rfl (fun ls hl => ?_)
        refine lv_iinc (v := x7 + (1 : Int32)) (lv' := [(7, .int (x7 + (1 : Int32))), (5, .long (x5 >>> (x1.toInt64 &&& 63))), (0, .ref b1), (1, .int x1), (4, .int x4)]) hx hb dX1_appendGroups_58 hl (k := 4) rfl (congrArg (fun z => x7 + z) (by decide)) (by decide) rfl (fun ls hl => ?_)
        refine lv_goto (tgt := 15) hx hb dX1_appendGroups_61 (by decide) ?_
        exact ih (x5 >>> (x1.toInt64 &&& 63)) (x7 + (1 : Int32)) v1505 v1506 _ hj _ _ _ (hP) (hD) hS (lv_sub hl [2, 3, 4, 1, 0] rfl)
      · replace hj := ja_neg c1502 hj
        refine lv_lconst (v := (1 : Int64)) hx hb dX1_appendGroups_33 (by decide) ?_
        refine lv_goto (tgt := 38) hx hb dX1_appendGroups_34 (by decide) ?_
        refine lv_iconst (v := (1 : Int32)) hx hb dX1_appendGroups_38 (by decide) ?_
        obtain ⟨⟨v1507, v1508⟩, hc, hj⟩ := ja_bd hj
        try dsimp only at hj
        have hPc := hP.sub (ws' := (wB cJ b0 bw w en pl cu)) [1, 2] rfl
        have hDc := hD.sub (ws' := (wB cJ b0 bw w en pl cu)) [1, 2] (by decide) rfl
        have hFc := va_free (wc := (wB cJ b0 bw w en pl cu)) hD hS hA [1, 2] rfl
        refine va_callv (va_runV (As := [.long (1 : Int64), .int (1 : Int32)]) (rest := []) ⟨hx, hb, hml, hown, hts⟩ (c_X0_appendBits l dC dI cI cJ b0 bw H.size w en pl cu (1 : Int64) (1 : Int32) _ hc) (cwV 2 hts gX1_appendGroups_X0_appendBits rfl rfl rfl (by decide +kernel) ⟨Nat.le_of_ble_eq_true rfl, Nat.le_of_ble_eq_true rfl⟩) ⟨fun a U g mk q => ⟨q.1, jPr.blind q.2⟩, va_recv hK hPc (ci := 0) (q0 := 0) rfl rfl, fun U hU hW => ⟨rfl, jPr.mk hU hW hPc hK hDc⟩⟩ rfl rfl hl.1 rfl (lv_room (Nat.le_of_ble_eq_true rfl)) dX1_appendGroups_39 ⟨Nat.le_of_ble_eq_true rfl, Nat.le_of_ble_eq_true rfl⟩) hS (fun q _ h => hFc q h) hFc (fun u t H1 locs ht hvm hw9 hB hz1 hk1 hS => ?_)
        obtain ⟨hP1, hK1, hD1⟩ := hB
        rw [ht] at hP1
        obtain ⟨hP, hD⟩ := va_join (wr := ([(b1, .inr (1, [.ref b0, .ref bq, .ref bf, .int ld])), (bq, .inl (cJ, 100, .inr (.inl li))), (bf, .inl (cJ, 89, .inr (.inl fb)))] : va_W)) (w1 := (wB cJ b0 bw v1507 v1508 pl cu)) hP hD [1, 2] [0, 3, 4] rfl rfl (by decide) (by decide) hk1 hFc hP1 hD1
        replace hP := hP.sub (ws' := (wC cJ b1 b0 bw bq bf v1507 v1508 pl cu li ld fb)) [0, 3, 4, 1, 2] rfl
        replace hD := hD.sub (ws' := (wC cJ b1 b0 bw bq bf v1507 v1508 pl cu li ld fb)) [0, 3, 4, 1, 2] (by decide) rfl
        clear hk1 hP1 hK1 hD1 hvm hz1 hPc hDc hFc
        generalize H1 = H at hP hS ⊢
        have hP : va_P (dC, dI) vwCl (wC cJ b1 b0 bw bq bf v1507 v1508 pl cu li ld fb) H := hP
        have hD : va_D A (wC cJ b1 b0 bw bq bf v1507 v1508 pl cu li ld fb) := hD
        refine lv_aload_n hx hb dX1_appendGroups_42 rfl (lv_at hl 0 rfl) ?_
        refine va_get (D := (dC, dI)) (ci := 1) (v := .ref b0) (C := RX1) (T := TX1) (N := 4) hx hb hts inn_X1_appendGroups_X1 hown hK hP 0 rfl rfl 0 (by decide) (hts (.fieldLink RX1 12 "SelfEndingCodes" "row" "LSelfEndingCodes$BitRow;") (by decide +kernel)) (fun _ h9 => h9) rfl dX1_appendGroups_43 ?_
        refine lv_lload hx hb dX1_appendGroups_46 (lv_at hl 3 rfl) ?_
        refine lv_iload_n hx hb dX1_appendGroups_48 rfl (lv_at hl 1 rfl) ?_
        obtain ⟨⟨v1509, v1510⟩, hc, hj⟩ := ja_bd hj
        try dsimp only at hj
        have hPc := hP.sub (ws' := (wB cJ b0 bw v1507 v1508 pl cu)) [1, 2] rfl
        have hDc := hD.sub (ws' := (wB cJ b0 bw v1507 v1508 pl cu)) [1, 2] (by decide) rfl
        have hFc := va_free (wc := (wB cJ b0 bw v1507 v1508 pl cu)) hD hS hA [1, 2] rfl
        refine va_callv (va_runV (As := [.long x5, .int x1]) (rest := []) ⟨hx, hb, hml, hown, hts⟩ (c_X0_appendBits l dC dI cI cJ b0 bw H.size v1507 v1508 pl cu x5 x1 _ hc) (cwV 2 hts gX1_appendGroups_X0_appendBits rfl rfl rfl (by decide +kernel) ⟨Nat.le_of_ble_eq_true rfl, Nat.le_of_ble_eq_true rfl⟩) ⟨fun a U g mk q => ⟨q.1, jPr.blind q.2⟩, va_recv hK hPc (ci := 0) (q0 := 0) rfl rfl, fun U hU hW => ⟨rfl, jPr.mk hU hW hPc hK hDc⟩⟩ rfl rfl hl.1 rfl (lv_room (Nat.le_of_ble_eq_true rfl)) dX1_appendGroups_49 ⟨Nat.le_of_ble_eq_true rfl, Nat.le_of_ble_eq_true rfl⟩) hS (fun q _ h => hFc q h) hFc (fun u t H1 locs ht hvm hw9 hB hz1 hk1 hS => ?_)
        obtain ⟨hP1, hK1, hD1⟩ := hB
        rw [ht] at hP1
        obtain ⟨hP, hD⟩ := va_join (wr := ([(b1, .inr (1, [.ref b0, .ref bq, .ref bf, .int ld])), (bq, .inl (cJ, 100, .inr (.inl li))), (bf, .inl (cJ, 89, .inr (.inl fb)))] : va_W)) (w1 := (wB cJ b0 bw v1509 v1510 pl cu)) hP hD [1, 2] [0, 3, 4] rfl rfl (by decide) (by decide) hk1 hFc hP1 hD1
        replace hP := hP.sub (ws' := (wC cJ b1 b0 bw bq bf v1509 v1510 pl cu li ld fb)) [0, 3, 4, 1, 2] rfl
        replace hD := hD.sub (ws' := (wC cJ b1 b0 bw bq bf v1509 v1510 pl cu li ld fb)) [0, 3, 4, 1, 2] (by decide) rfl
        clear hk1 hP1 hK1 hD1 hvm hz1 hPc hDc hFc
        generalize H1 = H at hP hS ⊢
        have hP : va_P (dC, dI) vwCl (wC cJ b1 b0 bw bq bf v1509 v1510 pl cu li ld fb) H := hP
        have hD : va_D A (wC cJ b1 b0 bw bq bf v1509 v1510 pl cu li ld fb) := hD
        refine lv_lload hx hb dX1_appendGroups_52 (lv_at hl 3 rfl) ?_
        refine lv_iload_n hx hb dX1_appendGroups_54 rfl (lv_at hl 1 rfl) ?_
        refine lv_lshr hx hb dX1_appendGroups_55 rfl ?_
        refine lv_lstore (lv' := [(5, .long (x5 >>> (x1.toInt64 &&& 63))), (0, .ref b1), (1, .int x1), (4, .int x4), (7, .int x7)]) hx hb dX1_appendGroups_56 hl (by decide) rfl (fun ls hl => ?_)
        refine lv_iinc (v := x7 + (1 : Int32)) (lv' := [(7, .int (x7 + (1 : Int32))), (5, .long (x5 >>> (x1.toInt64 &&& 63))), (0, .ref b1), (1, .int x1), (4, .int x4)]) hx hb dX1_appendGroups_58 hl (k := 4) rfl (congrArg (fun z => x7 + z) (by decide)) (by decide) rfl (fun ls hl => ?_)
        refine lv_goto (tgt := 15) hx hb dX1_appendGroups_61 (by decide) ?_
        exact ih (x5 >>> (x1.toInt64 &&& 63)) (x7 + (1 : Int32)) v1509 v1510 _ hj _ _ _ (hP) (hD) hS (lv_sub hl [2, 3, 4, 1, 0] rfl)
def j_X1_appendGroups (w : Nat → Int64) (en : Int32) (a1 : Int32) (a2 : Int64) : Option ((Nat → Int64) × Int32) :=
  (j_X1_groupsOf a1 a2).bind fun v1 => (jL_X1_appendGroups_15 a1 v1 jF (a2 - (1 : Int64)) (1 : Int32) w en)
set_option maxHeartbeats 4000000 in
set_option maxRecDepth 100000 in
theorem c_X1_appendGroups (l : Launch) (dC : Nat → ClassId) (dI : Nat → Nat → Nat) (cI cJ : ClassId) (b1 : Nat) (b0 : Nat) (bw : Nat) (bq : Nat) (bf : Nat) (sz : Nat) (w : Nat → Int64) (en : Int32) (pl : Int32) (cu : Int32) (li : Nat → Int64) (ld : Int32) (fb : Nat → Int64) (a1 : Int32) (a2 : Int64) (r : (Nat → Int64) × Int32) (hj : j_X1_appendGroups w en a1 a2 = some r) : Met l yX1_appendGroups wsX1_appendGroups ({ frames := 4, cells := 0, slots := 0, locals := 86 } : Room) (va_Pc [.ref b1, .int a1, .long a2] (fun U => jPr dC dI cI cJ (wC cJ b1 b0 bw bq bf w en pl cu li ld fb) sz U ∧ jNs U)) (va_Qv (fun _ : Unit => True) (fun (_ : Unit) t => jPo dC dI cI cJ (wC cJ b1 b0 bw bq bf r.1 r.2 pl cu li ld fb) (va_A (wC cJ b1 b0 bw bq bf w en pl cu li ld fb) sz) t) (va_A (wC cJ b1 b0 bw bq bf w en pl cu li ld fb) sz)) 0 0 (va_A (wC cJ b1 b0 bw bq bf w en pl cu li ld fb) sz) := by
  refine Met.ofW (cc := cX1_appendGroups) (maxL := 8) (ret := none) (by decide) rfl ?_
  intro p e s m args below meth c s₁ B hml hv
  obtain ⟨rfl, ⟨hsz, hP, hK, hD0⟩, hN⟩ := hv
  have hx := B.exec
  have hb := B.bytes
  have hr := B.returns
  have hts := atoms_spec (ws := wsX1_appendGroups) B.pre
  have hown : s.vm.findClass RX1 = some m.cls := findClass_of_methodNamed B.named
  have hlocks := B.notSynchronized
  have C0 := jCx.of hx hb hr hml hown hts hlocks
  subst hsz
  have hD := hD0.self (sz := s.heap.size)
  generalize hAe : va_A (wC cJ b1 b0 bw bq bf w en pl cu li ld fb) s.heap.size = A at hD ⊢
  have hA : ∀ q : Nat, s.heap.size ≤ q → A q := fun q h => by rw [← hAe]; exact Or.inr h
  have hS : va_S A s.heap s.heap [] := va_S.rf
  have hP : va_P (dC, dI) vwCl (wC cJ b1 b0 bw bq bf w en pl cu li ld fb) s.heap := hP
  have hl := lv_entry ([.ref b1, .int a1, .long a2]) (n := 8) (Nat.le_of_ble_eq_true rfl)
  rw [lg_entry_eq]
  generalize (lg_sl ([.ref b1, .int a1, .long a2]) ++ List.replicate (8 - (lg_sl ([.ref b1, .int a1, .long a2])).length) Slot.unset).toArray = ls at hl ⊢
  have hl : lv_has ls 8 [(0, .ref b1), (1, .int a1), (2, .long a2)] := hl
  clear hD0 hAe
  unfold j_X1_appendGroups at hj
  refine lv_iload_n hx hb dX1_appendGroups_0 rfl (lv_at hl 1 rfl) ?_
  refine lv_lload_n hx hb dX1_appendGroups_1 rfl (lv_at hl 2 rfl) ?_
  obtain ⟨v1, hc, hj⟩ := ja_bd hj
  try dsimp only at hj
  have hPc := hP.sub (ws' := ([] : va_W)) [] rfl
  have hDc := hD.sub (ws' := ([] : va_W)) [] (by decide) rfl
  have hFc := va_free (wc := ([] : va_W)) hD hS hA [] rfl
  refine va_calli (va_runS (As := [.int a1, .long a2]) (rest := []) ⟨hx, hb, hml, hown, hts⟩ (c_X1_groupsOf l dC dI cI cJ s.heap.size a1 a2 _ hc) (va_cwS 2 hts gX1_appendGroups_X1_groupsOf rfl rfl rfl (by decide +kernel) ⟨Nat.le_of_ble_eq_true rfl, Nat.le_of_ble_eq_true rfl⟩) ⟨fun a U g mk q => ⟨q.1, jPr.blind q.2⟩, fun U hU hW => ⟨rfl, jPr.mk hU hW hPc hK hDc⟩⟩ rfl rfl hl.1 rfl (lv_room (Nat.le_of_ble_eq_true rfl)) dX1_appendGroups_2 ⟨Nat.le_of_ble_eq_true rfl, Nat.le_of_ble_eq_true rfl⟩) hS (fun q _ h => hFc q h) hFc (fun rr u t H1 locs ht hvm hw9 hB hz1 hk1 hS => ?_)
  have hw8 : v1 = rr := hw9.symm
  subst hw8
  obtain ⟨hP1, hK1, hD1⟩ := hB
  rw [ht] at hP1
  obtain ⟨hP, hD⟩ := va_join (wr := ([(b1, .inr (1, [.ref b0, .ref bq, .ref bf, .int ld])), (b0, .inr (0, [.ref bw, .int en, .int pl, .int cu])), (bw, .inl (cJ, 64, .inr (.inl w))), (bq, .inl (cJ, 100, .inr (.inl li))), (bf, .inl (cJ, 89, .inr (.inl fb)))] : va_W)) (w1 := ([] : va_W)) hP hD [] [0, 1, 2, 3, 4] rfl rfl (by decide) (by decide) hk1 hFc hP1 hD1
  clear hk1 hP1 hK1 hD1 hvm hz1 hPc hDc hFc
  generalize H1 = H at hP hS ⊢
  have hP : va_P (dC, dI) vwCl (wC cJ b1 b0 bw bq bf w en pl cu li ld fb) H := hP
  have hD : va_D A (wC cJ b1 b0 bw bq bf w en pl cu li ld fb) := hD
  refine lv_istore (lv' := [(4, .int v1), (0, .ref b1), (1, .int a1), (2, .long a2)]) hx hb dX1_appendGroups_5 hl (by decide) rfl (fun ls hl => ?_)
  refine lv_lload_n hx hb dX1_appendGroups_7 rfl (lv_at hl 3 rfl) ?_
  refine lv_lconst (v := (1 : Int64)) hx hb dX1_appendGroups_8 (by decide) ?_
  refine lv_lsub hx hb dX1_appendGroups_9 ?_
  refine lv_lstore (lv' := [(5, .long (a2 - (1 : Int64))), (4, .int v1), (0, .ref b1), (1, .int a1), (2, .long a2)]) hx hb dX1_appendGroups_10 hl (by decide) rfl (fun ls hl => ?_)
  refine lv_iconst (v := (1 : Int32)) hx hb dX1_appendGroups_12 (by decide) ?_
  refine lv_istore (lv' := [(7, .int (1 : Int32)), (5, .long (a2 - (1 : Int64))), (4, .int v1), (0, .ref b1), (1, .int a1), (2, .long a2)]) hx hb dX1_appendGroups_13 hl (by decide) rfl (fun ls hl => ?_)
  exact s_X1_appendGroups_15 C0 hK hA hN b1 b0 bw bq bf pl cu li ld fb a1 v1 jF (a2 - (1 : Int64)) (1 : Int32) w en _ hj _ _ _ (hP) (hD) hS (lv_sub hl [3, 4, 2, 1, 0] rfl)

set_option maxRecDepth 100000 in
theorem inn_X1_appendCodeword_X1 : ∀ w ∈ u_ws RX1 TX1 4, w ∈ wsX1_appendCodeword := by decide +kernel
def j_X1_appendCodeword (w : Nat → Int64) (en : Int32) (fb : Nat → Int64) (a1 : Int32) (a2 : Int32) (a3 : Int64) : Option ((Nat → Int64) × Int32) :=
  if a1 = (0 : Int32) then ((j_X0_appendOnesAndZero w en (a3 - (1 : Int64))).bind fun (v3, v4) => (some (v3, v4))) else (if a1 = (1 : Int32) then ((j_X1_appendGamma w en a3).bind fun (v5, v6) => (some (v5, v6))) else (if a1 = (2 : Int32) then ((j_X1_bitLength a3).bind fun v7 => ((j_X1_appendGamma w en v7.toInt64).bind fun (v8, v9) => ((j_X1_bitLength a3).bind fun v10 => ((j_X0_appendBits v8 v9 a3 (v10 - (1 : Int32))).bind fun (v11, v12) => (some (v11, v12)))))) else (if a1 = (3 : Int32) then ((j_X1_appendOmega w en a3).bind fun (v13, v14) => (some (v13, v14))) else (if a1 = (4 : Int32) then ((j_X1_appendFibonacci w en fb a3).bind fun (v15, v16) => (some (v15, v16))) else (if a1 = (5 : Int32) then ((j_X1_appendGolomb w en a2 a3).bind fun (v17, v18) => (some (v17, v18))) else (if a1 = (6 : Int32) then ((j_X1_appendGamma w en (((a3 - (1 : Int64)) >>> (a2.toInt64 &&& 63)) + (1 : Int64))).bind fun (v19, v20) => ((j_X0_appendBits v19 v20 (a3 - (1 : Int64)) a2).bind fun (v21, v22) => (some (v21, v22)))) else ((j_X1_appendGroups w en a2 a3).bind fun (v1, v2) => (some (v1, v2)))))))))
set_option maxHeartbeats 4000000 in
set_option maxRecDepth 100000 in
theorem c_X1_appendCodeword (l : Launch) (dC : Nat → ClassId) (dI : Nat → Nat → Nat) (cI cJ : ClassId) (b1 : Nat) (b0 : Nat) (bw : Nat) (bq : Nat) (bf : Nat) (sz : Nat) (w : Nat → Int64) (en : Int32) (pl : Int32) (cu : Int32) (li : Nat → Int64) (ld : Int32) (fb : Nat → Int64) (a1 : Int32) (a2 : Int32) (a3 : Int64) (r : (Nat → Int64) × Int32) (hj : j_X1_appendCodeword w en fb a1 a2 a3 = some r) : Met l yX1_appendCodeword wsX1_appendCodeword ({ frames := 5, cells := 0, slots := 0, locals := 118 } : Room) (va_Pc [.ref b1, .int a1, .int a2, .long a3] (fun U => jPr dC dI cI cJ (wC cJ b1 b0 bw bq bf w en pl cu li ld fb) sz U ∧ jNs U)) (va_Qv (fun _ : Unit => True) (fun (_ : Unit) t => jPo dC dI cI cJ (wC cJ b1 b0 bw bq bf r.1 r.2 pl cu li ld fb) (va_A (wC cJ b1 b0 bw bq bf w en pl cu li ld fb) sz) t) (va_A (wC cJ b1 b0 bw bq bf w en pl cu li ld fb) sz)) 0 0 (va_A (wC cJ b1 b0 bw bq bf w en pl cu li ld fb) sz) := by
  refine Met.ofW (cc := cX1_appendCodeword) (maxL := 5) (ret := none) (by decide) rfl ?_
  intro p e s m args below meth c s₁ B hml hv
  obtain ⟨rfl, ⟨hsz, hP, hK, hD0⟩, hN⟩ := hv
  have hx := B.exec
  have hb := B.bytes
  have hr := B.returns
  have hts := atoms_spec (ws := wsX1_appendCodeword) B.pre
  have hown : s.vm.findClass RX1 = some m.cls := findClass_of_methodNamed B.named
  have hlocks := B.notSynchronized
  have C0 := jCx.of hx hb hr hml hown hts hlocks
  subst hsz
  have hD := hD0.self (sz := s.heap.size)
  generalize hAe : va_A (wC cJ b1 b0 bw bq bf w en pl cu li ld fb) s.heap.size = A at hD ⊢
  have hA : ∀ q : Nat, s.heap.size ≤ q → A q := fun q h => by rw [← hAe]; exact Or.inr h
  have hS : va_S A s.heap s.heap [] := va_S.rf
  have hP : va_P (dC, dI) vwCl (wC cJ b1 b0 bw bq bf w en pl cu li ld fb) s.heap := hP
  have hl := lv_entry ([.ref b1, .int a1, .int a2, .long a3]) (n := 5) (Nat.le_of_ble_eq_true rfl)
  rw [lg_entry_eq]
  generalize (lg_sl ([.ref b1, .int a1, .int a2, .long a3]) ++ List.replicate (5 - (lg_sl ([.ref b1, .int a1, .int a2, .long a3])).length) Slot.unset).toArray = ls at hl ⊢
  have hl : lv_has ls 5 [(0, .ref b1), (1, .int a1), (2, .int a2), (3, .long a3)] := hl
  clear hD0 hAe
  unfold j_X1_appendCodeword at hj
  refine lv_iload_n hx hb dX1_appendCodeword_0 rfl (lv_at hl 1 rfl) ?_
  by_cases q0 : a1 = (0 : Int32)
  · replace hj := ja_pos q0 hj
    refine lv_tableIn (tgt := 44) hx hb dX1_appendCodeword_1 (by rw [q0]; decide) (by rw [q0]; decide) (by rw [q0]; rfl) (by decide) ?_
    refine lv_aload_n hx hb dX1_appendCodeword_44 rfl (lv_at hl 0 rfl) ?_
    refine va_get (D := (dC, dI)) (ci := 1) (v := .ref b0) (C := RX1) (T := TX1) (N := 4) hx hb hts inn_X1_appendCodeword_X1 hown hK hP 0 rfl rfl 0 (by decide) (hts (.fieldLink RX1 12 "SelfEndingCodes" "row" "LSelfEndingCodes$BitRow;") (by decide +kernel)) (fun _ h9 => h9) rfl dX1_appendCodeword_45 ?_
    refine lv_lload_n hx hb dX1_appendCodeword_48 rfl (lv_at hl 3 rfl) ?_
    refine lv_lconst (v := (1 : Int64)) hx hb dX1_appendCodeword_49 (by decide) ?_
    refine lv_lsub hx hb dX1_appendCodeword_50 ?_
    obtain ⟨⟨v3, v4⟩, hc, hj⟩ := ja_bd hj
    try dsimp only at hj
    have hPc := hP.sub (ws' := (wB cJ b0 bw w en pl cu)) [1, 2] rfl
    have hDc := hD.sub (ws' := (wB cJ b0 bw w en pl cu)) [1, 2] (by decide) rfl
    have hFc := va_free (wc := (wB cJ b0 bw w en pl cu)) hD hS hA [1, 2] rfl
    refine va_callv (va_runV (As := [.long (a3 - (1 : Int64))]) (rest := []) ⟨hx, hb, hml, hown, hts⟩ (c_X0_appendOnesAndZero l dC dI cI cJ b0 bw s.heap.size w en pl cu (a3 - (1 : Int64)) _ hc) (cwV 1 hts gX1_appendCodeword_X0_appendOnesAndZero rfl rfl rfl (by decide +kernel) ⟨Nat.le_of_ble_eq_true rfl, Nat.le_of_ble_eq_true rfl⟩) ⟨fun a U g mk q => ⟨q.1, jPr.blind q.2⟩, va_recv hK hPc (ci := 0) (q0 := 0) rfl rfl, fun U hU hW => ⟨rfl, jPr.mk hU hW hPc hK hDc⟩⟩ rfl rfl hl.1 rfl (lv_room (Nat.le_of_ble_eq_true rfl)) dX1_appendCodeword_51 ⟨Nat.le_of_ble_eq_true rfl, Nat.le_of_ble_eq_true rfl⟩) hS (fun q _ h => hFc q h) hFc (fun u t H1 locs ht hvm hw9 hB hz1 hk1 hS => ?_)
    obtain ⟨hP1, hK1, hD1⟩ := hB
    rw [ht] at hP1
    obtain ⟨hP, hD⟩ := va_join (wr := ([(b1, .inr (1, [.ref b0, .ref bq, .ref bf, .int ld])), (bq, .inl (cJ, 100, .inr (.inl li))), (bf, .inl (cJ, 89, .inr (.inl fb)))] : va_W)) (w1 := (wB cJ b0 bw v3 v4 pl cu)) hP hD [1, 2] [0, 3, 4] rfl rfl (by decide) (by decide) hk1 hFc hP1 hD1
    replace hP := hP.sub (ws' := (wC cJ b1 b0 bw bq bf v3 v4 pl cu li ld fb)) [0, 3, 4, 1, 2] rfl
    replace hD := hD.sub (ws' := (wC cJ b1 b0 bw bq bf v3 v4 pl cu li ld fb)) [0, 3, 4, 1, 2] (by decide) rfl
    clear hk1 hP1 hK1 hD1 hvm hz1 hPc hDc hFc
    generalize H1 = H at hP hS ⊢
    have hP : va_P (dC, dI) vwCl (wC cJ b1 b0 bw bq bf v3 v4 pl cu li ld fb) H := hP
    have hD : va_D A (wC cJ b1 b0 bw bq bf v3 v4 pl cu li ld fb) := hD
    refine lv_goto (tgt := 147) hx hb dX1_appendCodeword_54 (by decide) ?_
    have hr9 : (v3, v4) = r := Option.some.inj hj
    subst hr9
    exact W.vret hx hb hr (fun t ht hW => ⟨⟨(), rfl, trivial, by rw [ht]; exact hP, va_K.moved hW.alike hK, hD⟩, hS.F ht⟩) hS.2.2 dX1_appendCodeword_147
  · replace hj := ja_neg q0 hj
    by_cases q1 : a1 = (1 : Int32)
    · replace hj := ja_pos q1 hj
      refine lv_tableIn (tgt := 57) hx hb dX1_appendCodeword_1 (by rw [q1]; decide) (by rw [q1]; decide) (by rw [q1]; rfl) (by decide) ?_
      refine lv_aload_n hx hb dX1_appendCodeword_57 rfl (lv_at hl 0 rfl) ?_
      refine lv_lload_n hx hb dX1_appendCodeword_58 rfl (lv_at hl 3 rfl) ?_
      obtain ⟨⟨v5, v6⟩, hc, hj⟩ := ja_bd hj
      try dsimp only at hj
      have hPc := hP.sub (ws' := (wC cJ b1 b0 bw bq bf w en pl cu li ld fb)) [0, 1, 2, 3, 4] rfl
      have hDc := hD.sub (ws' := (wC cJ b1 b0 bw bq bf w en pl cu li ld fb)) [0, 1, 2, 3, 4] (by decide) rfl
      have hFc := va_free (wc := (wC cJ b1 b0 bw bq bf w en pl cu li ld fb)) hD hS hA [0, 1, 2, 3, 4] rfl
      refine va_callv (va_runV (As := [.long a3]) (rest := []) ⟨hx, hb, hml, hown, hts⟩ (c_X1_appendGamma l dC dI cI cJ b1 b0 bw bq bf s.heap.size w en pl cu li ld fb a3 _ hc) (cwV 1 hts gX1_appendCodeword_X1_appendGamma rfl rfl rfl (by decide +kernel) ⟨Nat.le_of_ble_eq_true rfl, Nat.le_of_ble_eq_true rfl⟩) ⟨fun a U g mk q => ⟨q.1, jPr.blind q.2.1, jNs.blind q.2.2⟩, va_recv hK hPc (ci := 1) (q0 := 0) rfl rfl, fun U hU hW => ⟨rfl, jPr.mk hU hW hPc hK hDc, jNs.warm hW hN⟩⟩ rfl rfl hl.1 rfl (lv_room (Nat.le_of_ble_eq_true rfl)) dX1_appendCodeword_59 ⟨Nat.le_of_ble_eq_true rfl, Nat.le_of_ble_eq_true rfl⟩) hS (fun q _ h => hFc q h) hFc (fun u t H1 locs ht hvm hw9 hB hz1 hk1 hS => ?_)
      obtain ⟨hP1, hK1, hD1⟩ := hB
      rw [ht] at hP1
      obtain ⟨hP, hD⟩ := va_join (wr := ([] : va_W)) (w1 := (wC cJ b1 b0 bw bq bf v5 v6 pl cu li ld fb)) hP hD [0, 1, 2, 3, 4] [] rfl rfl (by decide) (by decide) hk1 hFc hP1 hD1
      clear hk1 hP1 hK1 hD1 hvm hz1 hPc hDc hFc
      generalize H1 = H at hP hS ⊢
      have hP : va_P (dC, dI) vwCl (wC cJ b1 b0 bw bq bf v5 v6 pl cu li ld fb) H := hP
      have hD : va_D A (wC cJ b1 b0 bw bq bf v5 v6 pl cu li ld fb) := hD
      refine lv_goto (tgt := 147) hx hb dX1_appendCodeword_62 (by decide) ?_
      have hr9 : (v5, v6) = r := Option.some.inj hj
      subst hr9
      exact W.vret hx hb hr (fun t ht hW => ⟨⟨(), rfl, trivial, by rw [ht]; exact hP, va_K.moved hW.alike hK, hD⟩, hS.F ht⟩) hS.2.2 dX1_appendCodeword_147
    · replace hj := ja_neg q1 hj
      by_cases q2 : a1 = (2 : Int32)
      · replace hj := ja_pos q2 hj
        refine lv_tableIn (tgt := 65) hx hb dX1_appendCodeword_1 (by rw [q2]; decide) (by rw [q2]; decide) (by rw [q2]; rfl) (by decide) ?_
        refine lv_aload_n hx hb dX1_appendCodeword_65 rfl (lv_at hl 0 rfl) ?_
        refine lv_lload_n hx hb dX1_appendCodeword_66 rfl (lv_at hl 3 rfl) ?_
        obtain ⟨v7, hc, hj⟩ := ja_bd hj
        try dsimp only at hj
        have hPc := hP.sub (ws' := ([] : va_W)) [] rfl
        have hDc := hD.sub (ws' := ([] : va_W)) [] (by decide) rfl
        have hFc := va_free (wc := ([] : va_W)) hD hS hA [] rfl
        refine va_calli (va_runS (As := [.long a3]) (rest := [.ref b1]) ⟨hx, hb, hml, hown, hts⟩ (c_X1_bitLength l dC dI cI cJ s.heap.size a3 _ hc) (va_cwS 1 hts gX1_appendCodeword_X1_bitLength rfl rfl rfl (by decide +kernel) ⟨Nat.le_of_ble_eq_true rfl, Nat.le_of_ble_eq_true rfl⟩) ⟨fun a U g mk q => ⟨q.1, jPr.blind q.2⟩, fun U hU hW => ⟨rfl, jPr.mk hU hW hPc hK hDc⟩⟩ rfl rfl hl.1 rfl (lv_room (Nat.le_of_ble_eq_true rfl)) dX1_appendCodeword_67 ⟨Nat.le_of_ble_eq_true rfl, Nat.le_of_ble_eq_true rfl⟩) hS (fun q _ h => hFc q h) hFc (fun rr u t H1 locs ht hvm hw9 hB hz1 hk1 hS => ?_)
        have hw8 : v7 = rr := hw9.symm
        subst hw8
        obtain ⟨hP1, hK1, hD1⟩ := hB
        rw [ht] at hP1
        obtain ⟨hP, hD⟩ := va_join (wr := ([(b1, .inr (1, [.ref b0, .ref bq, .ref bf, .int ld])), (b0, .inr (0, [.ref bw, .int en, .int pl, .int cu])), (bw, .inl (cJ, 64, .inr (.inl w))), (bq, .inl (cJ, 100, .inr (.inl li))), (bf, .inl (cJ, 89, .inr (.inl fb)))] : va_W)) (w1 := ([] : va_W)) hP hD [] [0, 1, 2, 3, 4] rfl rfl (by decide) (by decide) hk1 hFc hP1 hD1
        clear hk1 hP1 hK1 hD1 hvm hz1 hPc hDc hFc
        generalize H1 = H at hP hS ⊢
        have hP : va_P (dC, dI) vwCl (wC cJ b1 b0 bw bq bf w en pl cu li ld fb) H := hP
        have hD : va_D A (wC cJ b1 b0 bw bq bf w en pl cu li ld fb) := hD
        refine lv_i2l hx hb dX1_appendCodeword_70 rfl ?_
        obtain ⟨⟨v8, v9⟩, hc, hj⟩ := ja_bd hj
        try dsimp only at hj
        have hPc := hP.sub (ws' := (wC cJ b1 b0 bw bq bf w en pl cu li ld fb)) [0, 1, 2, 3, 4] rfl
        have hDc := hD.sub (ws' := (wC cJ b1 b0 bw bq bf w en pl cu li ld fb)) [0, 1, 2, 3, 4] (by decide) rfl
        have hFc := va_free (wc := (wC cJ b1 b0 bw bq bf w en pl cu li ld fb)) hD hS hA [0, 1, 2, 3, 4] rfl
        refine va_callv (va_runV (As := [.long v7.toInt64]) (rest := []) ⟨hx, hb, hml, hown, hts⟩ (c_X1_appendGamma l dC dI cI cJ b1 b0 bw bq bf H.size w en pl cu li ld fb v7.toInt64 _ hc) (cwV 1 hts gX1_appendCodeword_X1_appendGamma rfl rfl rfl (by decide +kernel) ⟨Nat.le_of_ble_eq_true rfl, Nat.le_of_ble_eq_true rfl⟩) ⟨fun a U g mk q => ⟨q.1, jPr.blind q.2.1, jNs.blind q.2.2⟩, va_recv hK hPc (ci := 1) (q0 := 0) rfl rfl, fun U hU hW => ⟨rfl, jPr.mk hU hW hPc hK hDc, jNs.warm hW hN⟩⟩ rfl rfl hl.1 rfl (lv_room (Nat.le_of_ble_eq_true rfl)) dX1_appendCodeword_71 ⟨Nat.le_of_ble_eq_true rfl, Nat.le_of_ble_eq_true rfl⟩) hS (fun q _ h => hFc q h) hFc (fun u t H1 locs ht hvm hw9 hB hz1 hk1 hS => ?_)
        obtain ⟨hP1, hK1, hD1⟩ := hB
        rw [ht] at hP1
        obtain ⟨hP, hD⟩ := va_join (wr := ([] : va_W)) (w1 := (wC cJ b1 b0 bw bq bf v8 v9 pl cu li ld fb)) hP hD [0, 1, 2, 3, 4] [] rfl rfl (by decide) (by decide) hk1 hFc hP1 hD1
        clear hk1 hP1 hK1 hD1 hvm hz1 hPc hDc hFc
        generalize H1 = H at hP hS ⊢
        have hP : va_P (dC, dI) vwCl (wC cJ b1 b0 bw bq bf v8 v9 pl cu li ld fb) H := hP
        have hD : va_D A (wC cJ b1 b0 bw bq bf v8 v9 pl cu li ld fb) := hD
        refine lv_aload_n hx hb dX1_appendCodeword_74 rfl (lv_at hl 0 rfl) ?_
        refine va_get (D := (dC, dI)) (ci := 1) (v := .ref b0) (C := RX1) (T := TX1) (N := 4) hx hb hts inn_X1_appendCodeword_X1 hown hK hP 0 rfl rfl 0 (by decide) (hts (.fieldLink RX1 12 "SelfEndingCodes" "row" "LSelfEndingCodes$BitRow;") (by decide +kernel)) (fun _ h9 => h9) rfl dX1_appendCodeword_75 ?_
        refine lv_lload_n hx hb dX1_appendCodeword_78 rfl (lv_at hl 3 rfl) ?_
        refine lv_lload_n hx hb dX1_appendCodeword_79 rfl (lv_at hl 3 rfl) ?_
        obtain ⟨v10, hc, hj⟩ := ja_bd hj
        try dsimp only at hj
        have hPc := hP.sub (ws' := ([] : va_W)) [] rfl
        have hDc := hD.sub (ws' := ([] : va_W)) [] (by decide) rfl
        have hFc := va_free (wc := ([] : va_W)) hD hS hA [] rfl
        refine va_calli (va_runS (As := [.long a3]) (rest := [.long a3, .ref b0]) ⟨hx, hb, hml, hown, hts⟩ (c_X1_bitLength l dC dI cI cJ H.size a3 _ hc) (va_cwS 1 hts gX1_appendCodeword_X1_bitLength rfl rfl rfl (by decide +kernel) ⟨Nat.le_of_ble_eq_true rfl, Nat.le_of_ble_eq_true rfl⟩) ⟨fun a U g mk q => ⟨q.1, jPr.blind q.2⟩, fun U hU hW => ⟨rfl, jPr.mk hU hW hPc hK hDc⟩⟩ rfl rfl hl.1 rfl (lv_room (Nat.le_of_ble_eq_true rfl)) dX1_appendCodeword_80 ⟨Nat.le_of_ble_eq_true rfl, Nat.le_of_ble_eq_true rfl⟩) hS (fun q _ h => hFc q h) hFc (fun rr u t H1 locs ht hvm hw9 hB hz1 hk1 hS => ?_)
        have hw8 : v10 = rr := hw9.symm
        subst hw8
        obtain ⟨hP1, hK1, hD1⟩ := hB
        rw [ht] at hP1
        obtain ⟨hP, hD⟩ := va_join (wr := ([(b1, .inr (1, [.ref b0, .ref bq, .ref bf, .int ld])), (b0, .inr (0, [.ref bw, .int v9, .int pl, .int cu])), (bw, .inl (cJ, 64, .inr (.inl v8))), (bq, .inl (cJ, 100, .inr (.inl li))), (bf, .inl (cJ, 89, .inr (.inl fb)))] : va_W)) (w1 := ([] : va_W)) hP hD [] [0, 1, 2, 3, 4] rfl rfl (by decide) (by decide) hk1 hFc hP1 hD1
        clear hk1 hP1 hK1 hD1 hvm hz1 hPc hDc hFc
        generalize H1 = H at hP hS ⊢
        have hP : va_P (dC, dI) vwCl (wC cJ b1 b0 bw bq bf v8 v9 pl cu li ld fb) H := hP
        have hD : va_D A (wC cJ b1 b0 bw bq bf v8 v9 pl cu li ld fb) := hD
        refine lv_iconst (v := (1 : Int32)) hx hb dX1_appendCodeword_83 (by decide) ?_
        refine lv_isub hx hb dX1_appendCodeword_84 ?_
        obtain ⟨⟨v11, v12⟩, hc, hj⟩ := ja_bd hj
        try dsimp only at hj
        have hPc := hP.sub (ws' := (wB cJ b0 bw v8 v9 pl cu)) [1, 2] rfl
        have hDc := hD.sub (ws' := (wB cJ b0 bw v8 v9 pl cu)) [1, 2] (by decide) rfl
        have hFc := va_free (wc := (wB cJ b0 bw v8 v9 pl cu)) hD hS hA [1, 2] rfl
        refine va_callv (va_runV (As := [.long a3, .int (v10 - (1 : Int32))]) (rest := []) ⟨hx, hb, hml, hown, hts⟩ (c_X0_appendBits l dC dI cI cJ b0 bw H.size v8 v9 pl cu a3 (v10 - (1 : Int32)) _ hc) (cwV 2 hts gX1_appendCodeword_X0_appendBits rfl rfl rfl (by decide +kernel) ⟨Nat.le_of_ble_eq_true rfl, Nat.le_of_ble_eq_true rfl⟩) ⟨fun a U g mk q => ⟨q.1, jPr.blind q.2⟩, va_recv hK hPc (ci := 0) (q0 := 0) rfl rfl, fun U hU hW => ⟨rfl, jPr.mk hU hW hPc hK hDc⟩⟩ rfl rfl hl.1 rfl (lv_room (Nat.le_of_ble_eq_true rfl)) dX1_appendCodeword_85 ⟨Nat.le_of_ble_eq_true rfl, Nat.le_of_ble_eq_true rfl⟩) hS (fun q _ h => hFc q h) hFc (fun u t H1 locs ht hvm hw9 hB hz1 hk1 hS => ?_)
        obtain ⟨hP1, hK1, hD1⟩ := hB
        rw [ht] at hP1
        obtain ⟨hP, hD⟩ := va_join (wr := ([(b1, .inr (1, [.ref b0, .ref bq, .ref bf, .int ld])), (bq, .inl (cJ, 100, .inr (.inl li))), (bf, .inl (cJ, 89, .inr (.inl fb)))] : va_W)) (w1 := (wB cJ b0 bw v11 v12 pl cu)) hP hD [1, 2] [0, 3, 4] rfl rfl (by decide) (by decide) hk1 hFc hP1 hD1
        replace hP := hP.sub (ws' := (wC cJ b1 b0 bw bq bf v11 v12 pl cu li ld fb)) [0, 3, 4, 1, 2] rfl
        replace hD := hD.sub (ws' := (wC cJ b1 b0 bw bq bf v11 v12 pl cu li ld fb)) [0, 3, 4, 1, 2] (by decide) rfl
        clear hk1 hP1 hK1 hD1 hvm hz1 hPc hDc hFc
        generalize H1 = H at hP hS ⊢
        have hP : va_P (dC, dI) vwCl (wC cJ b1 b0 bw bq bf v11 v12 pl cu li ld fb) H := hP
        have hD : va_D A (wC cJ b1 b0 bw bq bf v11 v12 pl cu li ld fb) := hD
        refine lv_goto (tgt := 147) hx hb dX1_appendCodeword_88 (by decide) ?_
        have hr9 : (v11, v12) = r := Option.some.inj hj
        subst hr9
        exact W.vret hx hb hr (fun t ht hW => ⟨⟨(), rfl, trivial, by rw [ht]; exact hP, va_K.moved hW.alike hK, hD⟩, hS.F ht⟩) hS.2.2 dX1_appendCodeword_147
      · replace hj := ja_neg q2 hj
        by_cases q3 : a1 = (3 : Int32)
        · replace hj := ja_pos q3 hj
          refine lv_tableIn (tgt := 91) hx hb dX1_appendCodeword_1 (by rw [q3]; decide) (by rw [q3]; decide) (by rw [q3]; rfl) (by decide) ?_
          refine lv_aload_n hx hb dX1_appendCodeword_91 rfl (lv_at hl 0 rfl) ?_
          refine lv_lload_n hx hb dX1_appendCodeword_92 rfl (lv_at hl 3 rfl) ?_
          obtain ⟨⟨v13, v14⟩, hc, hj⟩ := ja_bd hj
          try dsimp only at hj
          have hPc := hP.sub (ws' := (wC cJ b1 b0 bw bq bf w en pl cu li ld fb)) [0, 1, 2, 3, 4] rfl
          have hDc := hD.sub (ws' := (wC cJ b1 b0 bw bq bf w en pl cu li ld fb)) [0, 1, 2, 3, 4] (by decide) rfl
          have hFc := va_free (wc := (wC cJ b1 b0 bw bq bf w en pl cu li ld fb)) hD hS hA [0, 1, 2, 3, 4] rfl
          refine va_callv (va_runV (As := [.long a3]) (rest := []) ⟨hx, hb, hml, hown, hts⟩ (c_X1_appendOmega l dC dI cI cJ b1 b0 bw bq bf s.heap.size w en pl cu li ld fb a3 _ hc) (cwV 1 hts gX1_appendCodeword_X1_appendOmega rfl rfl rfl (by decide +kernel) ⟨Nat.le_of_ble_eq_true rfl, Nat.le_of_ble_eq_true rfl⟩) ⟨fun a U g mk q => ⟨q.1, jPr.blind q.2.1, jNs.blind q.2.2⟩, va_recv hK hPc (ci := 1) (q0 := 0) rfl rfl, fun U hU hW => ⟨rfl, jPr.mk hU hW hPc hK hDc, jNs.warm hW hN⟩⟩ rfl rfl hl.1 rfl (lv_room (Nat.le_of_ble_eq_true rfl)) dX1_appendCodeword_93 ⟨Nat.le_of_ble_eq_true rfl, Nat.le_of_ble_eq_true rfl⟩) hS (fun q _ h => hFc q h) hFc (fun u t H1 locs ht hvm hw9 hB hz1 hk1 hS => ?_)
          obtain ⟨hP1, hK1, hD1⟩ := hB
          rw [ht] at hP1
          obtain ⟨hP, hD⟩ := va_join (wr := ([] : va_W)) (w1 := (wC cJ b1 b0 bw bq bf v13 v14 pl cu li ld fb)) hP hD [0, 1, 2, 3, 4] [] rfl rfl (by decide) (by decide) hk1 hFc hP1 hD1
          clear hk1 hP1 hK1 hD1 hvm hz1 hPc hDc hFc
          generalize H1 = H at hP hS ⊢
          have hP : va_P (dC, dI) vwCl (wC cJ b1 b0 bw bq bf v13 v14 pl cu li ld fb) H := hP
          have hD : va_D A (wC cJ b1 b0 bw bq bf v13 v14 pl cu li ld fb) := hD
          refine lv_goto (tgt := 147) hx hb dX1_appendCodeword_96 (by decide) ?_
          have hr9 : (v13, v14) = r := Option.some.inj hj
          subst hr9
          exact W.vret hx hb hr (fun t ht hW => ⟨⟨(), rfl, trivial, by rw [ht]; exact hP, va_K.moved hW.alike hK, hD⟩, hS.F ht⟩) hS.2.2 dX1_appendCodeword_147
        · replace hj := ja_neg q3 hj
          by_cases q4 : a1 = (4 : Int32)
          · replace hj := ja_pos q4 hj
            refine lv_tableIn (tgt := 99) hx hb dX1_appendCodeword_1 (by rw [q4]; decide) (by rw [q4]; decide) (by rw [q4]; rfl) (by decide) ?_
            refine lv_aload_n hx hb dX1_appendCodeword_99 rfl (lv_at hl 0 rfl) ?_
            refine lv_lload_n hx hb dX1_appendCodeword_100 rfl (lv_at hl 3 rfl) ?_
            obtain ⟨⟨v15, v16⟩, hc, hj⟩ := ja_bd hj
            try dsimp only at hj
            have hPc := hP.sub (ws' := (wC cJ b1 b0 bw bq bf w en pl cu li ld fb)) [0, 1, 2, 3, 4] rfl
            have hDc := hD.sub (ws' := (wC cJ b1 b0 bw bq bf w en pl cu li ld fb)) [0, 1, 2, 3, 4] (by decide) rfl
            have hFc := va_free (wc := (wC cJ b1 b0 bw bq bf w en pl cu li ld fb)) hD hS hA [0, 1, 2, 3, 4] rfl
            refine va_callv (va_runV (As := [.long a3]) (rest := []) ⟨hx, hb, hml, hown, hts⟩ (c_X1_appendFibonacci l dC dI cI cJ b1 b0 bw bq bf s.heap.size w en pl cu li ld fb a3 _ hc) (cwV 1 hts gX1_appendCodeword_X1_appendFibonacci rfl rfl rfl (by decide +kernel) ⟨Nat.le_of_ble_eq_true rfl, Nat.le_of_ble_eq_true rfl⟩) ⟨fun a U g mk q => ⟨q.1, jPr.blind q.2.1, jNs.blind q.2.2⟩, va_recv hK hPc (ci := 1) (q0 := 0) rfl rfl, fun U hU hW => ⟨rfl, jPr.mk hU hW hPc hK hDc, jNs.warm hW hN⟩⟩ rfl rfl hl.1 rfl (lv_room (Nat.le_of_ble_eq_true rfl)) dX1_appendCodeword_101 ⟨Nat.le_of_ble_eq_true rfl, Nat.le_of_ble_eq_true rfl⟩) hS (fun q _ h => hFc q h) hFc (fun u t H1 locs ht hvm hw9 hB hz1 hk1 hS => ?_)
            obtain ⟨hP1, hK1, hD1⟩ := hB
            rw [ht] at hP1
            obtain ⟨hP, hD⟩ := va_join (wr := ([] : va_W)) (w1 := (wC cJ b1 b0 bw bq bf v15 v16 pl cu li ld fb)) hP hD [0, 1, 2, 3, 4] [] rfl rfl (by decide) (by decide) hk1 hFc hP1 hD1
            clear hk1 hP1 hK1 hD1 hvm hz1 hPc hDc hFc
            generalize H1 = H at hP hS ⊢
            have hP : va_P (dC, dI) vwCl (wC cJ b1 b0 bw bq bf v15 v16 pl cu li ld fb) H := hP
            have hD : va_D A (wC cJ b1 b0 bw bq bf v15 v16 pl cu li ld fb) := hD
            refine lv_goto (tgt := 147) hx hb dX1_appendCodeword_104 (by decide) ?_
            have hr9 : (v15, v16) = r := Option.some.inj hj
            subst hr9
            exact W.vret hx hb hr (fun t ht hW => ⟨⟨(), rfl, trivial, by rw [ht]; exact hP, va_K.moved hW.alike hK, hD⟩, hS.F ht⟩) hS.2.2 dX1_appendCodeword_147
          · replace hj := ja_neg q4 hj
            by_cases q5 : a1 = (5 : Int32)
            · replace hj := ja_pos q5 hj
              refine lv_tableIn (tgt := 107) hx hb dX1_appendCodeword_1 (by rw [q5]; decide) (by rw [q5]; decide) (by rw [q5]; rfl) (by decide) ?_
              refine lv_aload_n hx hb dX1_appendCodeword_107 rfl (lv_at hl 0 rfl) ?_
              refine lv_iload_n hx hb dX1_appendCodeword_108 rfl (lv_at hl 2 rfl) ?_
              refine lv_lload_n hx hb dX1_appendCodeword_109 rfl (lv_at hl 3 rfl) ?_
              obtain ⟨⟨v17, v18⟩, hc, hj⟩ := ja_bd hj
              try dsimp only at hj
              have hPc := hP.sub (ws' := (wC cJ b1 b0 bw bq bf w en pl cu li ld fb)) [0, 1, 2, 3, 4] rfl
              have hDc := hD.sub (ws' := (wC cJ b1 b0 bw bq bf w en pl cu li ld fb)) [0, 1, 2, 3, 4] (by decide) rfl
              have hFc := va_free (wc := (wC cJ b1 b0 bw bq bf w en pl cu li ld fb)) hD hS hA [0, 1, 2, 3, 4] rfl
              refine va_callv (va_runV (As := [.int a2, .long a3]) (rest := []) ⟨hx, hb, hml, hown, hts⟩ (c_X1_appendGolomb l dC dI cI cJ b1 b0 bw bq bf s.heap.size w en pl cu li ld fb a2 a3 _ hc) (cwV 2 hts gX1_appendCodeword_X1_appendGolomb rfl rfl rfl (by decide +kernel) ⟨Nat.le_of_ble_eq_true rfl, Nat.le_of_ble_eq_true rfl⟩) ⟨fun a U g mk q => ⟨q.1, jPr.blind q.2.1, jNs.blind q.2.2⟩, va_recv hK hPc (ci := 1) (q0 := 0) rfl rfl, fun U hU hW => ⟨rfl, jPr.mk hU hW hPc hK hDc, jNs.warm hW hN⟩⟩ rfl rfl hl.1 rfl (lv_room (Nat.le_of_ble_eq_true rfl)) dX1_appendCodeword_110 ⟨Nat.le_of_ble_eq_true rfl, Nat.le_of_ble_eq_true rfl⟩) hS (fun q _ h => hFc q h) hFc (fun u t H1 locs ht hvm hw9 hB hz1 hk1 hS => ?_)
              obtain ⟨hP1, hK1, hD1⟩ := hB
              rw [ht] at hP1
              obtain ⟨hP, hD⟩ := va_join (wr := ([] : va_W)) (w1 := (wC cJ b1 b0 bw bq bf v17 v18 pl cu li ld fb)) hP hD [0, 1, 2, 3, 4] [] rfl rfl (by decide) (by decide) hk1 hFc hP1 hD1
              clear hk1 hP1 hK1 hD1 hvm hz1 hPc hDc hFc
              generalize H1 = H at hP hS ⊢
              have hP : va_P (dC, dI) vwCl (wC cJ b1 b0 bw bq bf v17 v18 pl cu li ld fb) H := hP
              have hD : va_D A (wC cJ b1 b0 bw bq bf v17 v18 pl cu li ld fb) := hD
              refine lv_goto (tgt := 147) hx hb dX1_appendCodeword_113 (by decide) ?_
              have hr9 : (v17, v18) = r := Option.some.inj hj
              subst hr9
              exact W.vret hx hb hr (fun t ht hW => ⟨⟨(), rfl, trivial, by rw [ht]; exact hP, va_K.moved hW.alike hK, hD⟩, hS.F ht⟩) hS.2.2 dX1_appendCodeword_147
            · replace hj := ja_neg q5 hj
              by_cases q6 : a1 = (6 : Int32)
              · replace hj := ja_pos q6 hj
                refine lv_tableIn (tgt := 116) hx hb dX1_appendCodeword_1 (by rw [q6]; decide) (by rw [q6]; decide) (by rw [q6]; rfl) (by decide) ?_
                refine lv_aload_n hx hb dX1_appendCodeword_116 rfl (lv_at hl 0 rfl) ?_
                refine lv_lload_n hx hb dX1_appendCodeword_117 rfl (lv_at hl 3 rfl) ?_
                refine lv_lconst (v := (1 : Int64)) hx hb dX1_appendCodeword_118 (by decide) ?_
                refine lv_lsub hx hb dX1_appendCodeword_119 ?_
                refine lv_iload_n hx hb dX1_appendCodeword_120 rfl (lv_at hl 2 rfl) ?_
                refine lv_lshr hx hb dX1_appendCodeword_121 rfl ?_
                refine lv_lconst (v := (1 : Int64)) hx hb dX1_appendCodeword_122 (by decide) ?_
                refine lv_ladd hx hb dX1_appendCodeword_123 ?_
                obtain ⟨⟨v19, v20⟩, hc, hj⟩ := ja_bd hj
                try dsimp only at hj
                have hPc := hP.sub (ws' := (wC cJ b1 b0 bw bq bf w en pl cu li ld fb)) [0, 1, 2, 3, 4] rfl
                have hDc := hD.sub (ws' := (wC cJ b1 b0 bw bq bf w en pl cu li ld fb)) [0, 1, 2, 3, 4] (by decide) rfl
                have hFc := va_free (wc := (wC cJ b1 b0 bw bq bf w en pl cu li ld fb)) hD hS hA [0, 1, 2, 3, 4] rfl
                refine va_callv (va_runV (As := [.long (((a3 - (1 : Int64)) >>> (a2.toInt64 &&& 63)) + (1 : Int64))]) (rest := []) ⟨hx, hb, hml, hown, hts⟩ (c_X1_appendGamma l dC dI cI cJ b1 b0 bw bq bf s.heap.size w en pl cu li ld fb (((a3 - (1 : Int64)) >>> (a2.toInt64 &&& 63)) + (1 : Int64)) _ hc) (cwV 1 hts gX1_appendCodeword_X1_appendGamma rfl rfl rfl (by decide +kernel) ⟨Nat.le_of_ble_eq_true rfl, Nat.le_of_ble_eq_true rfl⟩) ⟨fun a U g mk q => ⟨q.1, jPr.blind q.2.1, jNs.blind q.2.2⟩, va_recv hK hPc (ci := 1) (q0 := 0) rfl rfl, fun U hU hW => ⟨rfl, jPr.mk hU hW hPc hK hDc, jNs.warm hW hN⟩⟩ rfl rfl hl.1 rfl (lv_room (Nat.le_of_ble_eq_true rfl)) dX1_appendCodeword_124 ⟨Nat.le_of_ble_eq_true rfl, Nat.le_of_ble_eq_true rfl⟩) hS (fun q _ h => hFc q h) hFc (fun u t H1 locs ht hvm hw9 hB hz1 hk1 hS => ?_)
                obtain ⟨hP1, hK1, hD1⟩ := hB
                rw [ht] at hP1
                obtain ⟨hP, hD⟩ := va_join (wr := ([] : va_W)) (w1 := (wC cJ b1 b0 bw bq bf v19 v20 pl cu li ld fb)) hP hD [0, 1, 2, 3, 4] [] rfl rfl (by decide) (by decide) hk1 hFc hP1 hD1
                clear hk1 hP1 hK1 hD1 hvm hz1 hPc hDc hFc
                generalize H1 = H at hP hS ⊢
                have hP : va_P (dC, dI) vwCl (wC cJ b1 b0 bw bq bf v19 v20 pl cu li ld fb) H := hP
                have hD : va_D A (wC cJ b1 b0 bw bq bf v19 v20 pl cu li ld fb) := hD
                refine lv_aload_n hx hb dX1_appendCodeword_127 rfl (lv_at hl 0 rfl) ?_
                refine va_get (D := (dC, dI)) (ci := 1) (v := .ref b0) (C := RX1) (T := TX1) (N := 4) hx hb hts inn_X1_appendCodeword_X1 hown hK hP 0 rfl rfl 0 (by decide) (hts (.fieldLink RX1 12 "SelfEndingCodes" "row" "LSelfEndingCodes$BitRow;") (by decide +kernel)) (fun _ h9 => h9) rfl dX1_appendCodeword_128 ?_
                refine lv_lload_n hx hb dX1_appendCodeword_131 rfl (lv_at hl 3 rfl) ?_
                refine lv_lconst (v := (1 : Int64)) hx hb dX1_appendCodeword_132 (by decide) ?_
                refine lv_lsub hx hb dX1_appendCodeword_133 ?_
                refine lv_iload_n hx hb dX1_appendCodeword_134 rfl (lv_at hl 2 rfl) ?_
                obtain ⟨⟨v21, v22⟩, hc, hj⟩ := ja_bd hj
                try dsimp only at hj
                have hPc := hP.sub (ws' := (wB cJ b0 bw v19 v20 pl cu)) [1, 2] rfl
                have hDc := hD.sub (ws' := (wB cJ b0 bw v19 v20 pl cu)) [1, 2] (by decide) rfl
                have hFc := va_free (wc := (wB cJ b0 bw v19 v20 pl cu)) hD hS hA [1, 2] rfl
                refine va_callv (va_runV (As := [.long (a3 - (1 : Int64)), .int a2]) (rest := []) ⟨hx, hb, hml, hown, hts⟩ (c_X0_appendBits l dC dI cI cJ b0 bw H.size v19 v20 pl cu (a3 - (1 : Int64)) a2 _ hc) (cwV 2 hts gX1_appendCodeword_X0_appendBits rfl rfl rfl (by decide +kernel) ⟨Nat.le_of_ble_eq_true rfl, Nat.le_of_ble_eq_true rfl⟩) ⟨fun a U g mk q => ⟨q.1, jPr.blind q.2⟩, va_recv hK hPc (ci := 0) (q0 := 0) rfl rfl, fun U hU hW => ⟨rfl, jPr.mk hU hW hPc hK hDc⟩⟩ rfl rfl hl.1 rfl (lv_room (Nat.le_of_ble_eq_true rfl)) dX1_appendCodeword_135 ⟨Nat.le_of_ble_eq_true rfl, Nat.le_of_ble_eq_true rfl⟩) hS (fun q _ h => hFc q h) hFc (fun u t H1 locs ht hvm hw9 hB hz1 hk1 hS => ?_)
                obtain ⟨hP1, hK1, hD1⟩ := hB
                rw [ht] at hP1
                obtain ⟨hP, hD⟩ := va_join (wr := ([(b1, .inr (1, [.ref b0, .ref bq, .ref bf, .int ld])), (bq, .inl (cJ, 100, .inr (.inl li))), (bf, .inl (cJ, 89, .inr (.inl fb)))] : va_W)) (w1 := (wB cJ b0 bw v21 v22 pl cu)) hP hD [1, 2] [0, 3, 4] rfl rfl (by decide) (by decide) hk1 hFc hP1 hD1
                replace hP := hP.sub (ws' := (wC cJ b1 b0 bw bq bf v21 v22 pl cu li ld fb)) [0, 3, 4, 1, 2] rfl
                replace hD := hD.sub (ws' := (wC cJ b1 b0 bw bq bf v21 v22 pl cu li ld fb)) [0, 3, 4, 1, 2] (by decide) rfl
                clear hk1 hP1 hK1 hD1 hvm hz1 hPc hDc hFc
                generalize H1 = H at hP hS ⊢
                have hP : va_P (dC, dI) vwCl (wC cJ b1 b0 bw bq bf v21 v22 pl cu li ld fb) H := hP
                have hD : va_D A (wC cJ b1 b0 bw bq bf v21 v22 pl cu li ld fb) := hD
                refine lv_goto (tgt := 147) hx hb dX1_appendCodeword_138 (by decide) ?_
                have hr9 : (v21, v22) = r := Option.some.inj hj
                subst hr9
                exact W.vret hx hb hr (fun t ht hW => ⟨⟨(), rfl, trivial, by rw [ht]; exact hP, va_K.moved hW.alike hK, hD⟩, hS.F ht⟩) hS.2.2 dX1_appendCodeword_147
              · replace hj := ja_neg q6 hj
                have n0 := ja_sw (z := 0) (by decide) q0
                have n1 := ja_sw (z := 1) (by decide) q1
                have n2 := ja_sw (z := 2) (by decide) q2
                have n3 := ja_sw (z := 3) (by decide) q3
                have n4 := ja_sw (z := 4) (by decide) q4
                have n5 := ja_sw (z := 5) (by decide) q5
                have n6 := ja_sw (z := 6) (by decide) q6
                refine lv_tableOut (tgt := 141) hx hb dX1_appendCodeword_1 (by omega) (by decide) ?_
                refine lv_aload_n hx hb dX1_appendCodeword_141 rfl (lv_at hl 0 rfl) ?_
                refine lv_iload_n hx hb dX1_appendCodeword_142 rfl (lv_at hl 2 rfl) ?_
                refine lv_lload_n hx hb dX1_appendCodeword_143 rfl (lv_at hl 3 rfl) ?_
                obtain ⟨⟨v1, v2⟩, hc, hj⟩ := ja_bd hj
                try dsimp only at hj
                have hPc := hP.sub (ws' := (wC cJ b1 b0 bw bq bf w en pl cu li ld fb)) [0, 1, 2, 3, 4] rfl
                have hDc := hD.sub (ws' := (wC cJ b1 b0 bw bq bf w en pl cu li ld fb)) [0, 1, 2, 3, 4] (by decide) rfl
                have hFc := va_free (wc := (wC cJ b1 b0 bw bq bf w en pl cu li ld fb)) hD hS hA [0, 1, 2, 3, 4] rfl
                refine va_callv (va_runV (As := [.int a2, .long a3]) (rest := []) ⟨hx, hb, hml, hown, hts⟩ (c_X1_appendGroups l dC dI cI cJ b1 b0 bw bq bf s.heap.size w en pl cu li ld fb a2 a3 _ hc) (cwV 2 hts gX1_appendCodeword_X1_appendGroups rfl rfl rfl (by decide +kernel) ⟨Nat.le_of_ble_eq_true rfl, Nat.le_of_ble_eq_true rfl⟩) ⟨fun a U g mk q => ⟨q.1, jPr.blind q.2.1, jNs.blind q.2.2⟩, va_recv hK hPc (ci := 1) (q0 := 0) rfl rfl, fun U hU hW => ⟨rfl, jPr.mk hU hW hPc hK hDc, jNs.warm hW hN⟩⟩ rfl rfl hl.1 rfl (lv_room (Nat.le_of_ble_eq_true rfl)) dX1_appendCodeword_144 ⟨Nat.le_of_ble_eq_true rfl, Nat.le_of_ble_eq_true rfl⟩) hS (fun q _ h => hFc q h) hFc (fun u t H1 locs ht hvm hw9 hB hz1 hk1 hS => ?_)
                obtain ⟨hP1, hK1, hD1⟩ := hB
                rw [ht] at hP1
                obtain ⟨hP, hD⟩ := va_join (wr := ([] : va_W)) (w1 := (wC cJ b1 b0 bw bq bf v1 v2 pl cu li ld fb)) hP hD [0, 1, 2, 3, 4] [] rfl rfl (by decide) (by decide) hk1 hFc hP1 hD1
                clear hk1 hP1 hK1 hD1 hvm hz1 hPc hDc hFc
                generalize H1 = H at hP hS ⊢
                have hP : va_P (dC, dI) vwCl (wC cJ b1 b0 bw bq bf v1 v2 pl cu li ld fb) H := hP
                have hD : va_D A (wC cJ b1 b0 bw bq bf v1 v2 pl cu li ld fb) := hD
                have hr9 : (v1, v2) = r := Option.some.inj hj
                subst hr9
                exact W.vret hx hb hr (fun t ht hW => ⟨⟨(), rfl, trivial, by rw [ht]; exact hP, va_K.moved hW.alike hK, hD⟩, hS.F ht⟩) hS.2.2 dX1_appendCodeword_147

set_option maxRecDepth 100000 in
theorem inn_X1_appendIfRoom_X1 : ∀ w ∈ u_ws RX1 TX1 4, w ∈ wsX1_appendIfRoom := by decide +kernel
def j_X1_appendIfRoom (w : Nat → Int64) (en : Int32) (fb : Nat → Int64) (a1 : Int32) (a2 : Int32) (a3 : Int64) : Option (Int32 × (Nat → Int64) × Int32) :=
  (j_X1_codewordLength fb a1 a2 a3).bind fun v1 => ((j_X0_room en).bind fun v2 => (if v1 ≤ v2.toInt64 then ((j_X1_appendCodeword w en fb a1 a2 a3).bind fun (v4, v5) => (some ((1 : Int32), v4, v5))) else (some ((0 : Int32), w, en))))
set_option maxHeartbeats 4000000 in
set_option maxRecDepth 100000 in
theorem c_X1_appendIfRoom (l : Launch) (dC : Nat → ClassId) (dI : Nat → Nat → Nat) (cI cJ : ClassId) (b1 : Nat) (b0 : Nat) (bw : Nat) (bq : Nat) (bf : Nat) (sz : Nat) (w : Nat → Int64) (en : Int32) (pl : Int32) (cu : Int32) (li : Nat → Int64) (ld : Int32) (fb : Nat → Int64) (a1 : Int32) (a2 : Int32) (a3 : Int64) (r : Int32 × (Nat → Int64) × Int32) (hj : j_X1_appendIfRoom w en fb a1 a2 a3 = some r) : Met l yX1_appendIfRoom wsX1_appendIfRoom ({ frames := 6, cells := 0, slots := 0, locals := 142 } : Room) (va_Pc [.ref b1, .int a1, .int a2, .long a3] (fun U => jPr dC dI cI cJ (wC cJ b1 b0 bw bq bf w en pl cu li ld fb) sz U ∧ jNs U)) (va_Qi (fun (v : Int32) (_ : Unit) => v = r.1) (fun (_ : Unit) t => jPo dC dI cI cJ (wC cJ b1 b0 bw bq bf r.2.1 r.2.2 pl cu li ld fb) (va_A (wC cJ b1 b0 bw bq bf w en pl cu li ld fb) sz) t) (va_A (wC cJ b1 b0 bw bq bf w en pl cu li ld fb) sz)) 0 0 (va_A (wC cJ b1 b0 bw bq bf w en pl cu li ld fb) sz) := by
  refine Met.ofW (cc := cX1_appendIfRoom) (maxL := 5) (ret := (some .boolean)) (by decide) rfl ?_
  intro p e s m args below meth c s₁ B hml hv
  obtain ⟨rfl, ⟨hsz, hP, hK, hD0⟩, hN⟩ := hv
  have hx := B.exec
  have hb := B.bytes
  have hr := B.returns
  have hts := atoms_spec (ws := wsX1_appendIfRoom) B.pre
  have hown : s.vm.findClass RX1 = some m.cls := findClass_of_methodNamed B.named
  have hlocks := B.notSynchronized
  have C0 := jCx.of hx hb hr hml hown hts hlocks
  subst hsz
  have hD := hD0.self (sz := s.heap.size)
  generalize hAe : va_A (wC cJ b1 b0 bw bq bf w en pl cu li ld fb) s.heap.size = A at hD ⊢
  have hA : ∀ q : Nat, s.heap.size ≤ q → A q := fun q h => by rw [← hAe]; exact Or.inr h
  have hS : va_S A s.heap s.heap [] := va_S.rf
  have hP : va_P (dC, dI) vwCl (wC cJ b1 b0 bw bq bf w en pl cu li ld fb) s.heap := hP
  have hl := lv_entry ([.ref b1, .int a1, .int a2, .long a3]) (n := 5) (Nat.le_of_ble_eq_true rfl)
  rw [lg_entry_eq]
  generalize (lg_sl ([.ref b1, .int a1, .int a2, .long a3]) ++ List.replicate (5 - (lg_sl ([.ref b1, .int a1, .int a2, .long a3])).length) Slot.unset).toArray = ls at hl ⊢
  have hl : lv_has ls 5 [(0, .ref b1), (1, .int a1), (2, .int a2), (3, .long a3)] := hl
  clear hD0 hAe
  unfold j_X1_appendIfRoom at hj
  refine lv_aload_n hx hb dX1_appendIfRoom_0 rfl (lv_at hl 0 rfl) ?_
  refine lv_iload_n hx hb dX1_appendIfRoom_1 rfl (lv_at hl 1 rfl) ?_
  refine lv_iload_n hx hb dX1_appendIfRoom_2 rfl (lv_at hl 2 rfl) ?_
  refine lv_lload_n hx hb dX1_appendIfRoom_3 rfl (lv_at hl 3 rfl) ?_
  obtain ⟨v1, hc, hj⟩ := ja_bd hj
  try dsimp only at hj
  have hPc := hP.sub (ws' := (wC cJ b1 b0 bw bq bf w en pl cu li ld fb)) [0, 1, 2, 3, 4] rfl
  have hDc := hD.sub (ws' := (wC cJ b1 b0 bw bq bf w en pl cu li ld fb)) [0, 1, 2, 3, 4] (by decide) rfl
  have hFc := va_free (wc := (wC cJ b1 b0 bw bq bf w en pl cu li ld fb)) hD hS hA [0, 1, 2, 3, 4] rfl
  refine va_calll (va_runV (As := [.int a1, .int a2, .long a3]) (rest := []) ⟨hx, hb, hml, hown, hts⟩ (c_X1_codewordLength l dC dI cI cJ b1 b0 bw bq bf s.heap.size w en pl cu li ld fb a1 a2 a3 _ hc) (cwV 3 hts gX1_appendIfRoom_X1_codewordLength rfl rfl rfl (by decide +kernel) ⟨Nat.le_of_ble_eq_true rfl, Nat.le_of_ble_eq_true rfl⟩) ⟨fun a U g mk q => ⟨q.1, jPr.blind q.2.1, jNs.blind q.2.2⟩, va_recv hK hPc (ci := 1) (q0 := 0) rfl rfl, fun U hU hW => ⟨rfl, jPr.mk hU hW hPc hK hDc, jNs.warm hW hN⟩⟩ rfl rfl hl.1 rfl (lv_room (Nat.le_of_ble_eq_true rfl)) dX1_appendIfRoom_4 ⟨Nat.le_of_ble_eq_true rfl, Nat.le_of_ble_eq_true rfl⟩) hS (fun q _ h => hFc q h) hFc (fun rr u t H1 locs ht hvm hw9 hB hz1 hk1 hS => ?_)
  have hw8 : v1 = rr := hw9.symm
  subst hw8
  obtain ⟨hP1, hK1, hD1⟩ := hB
  rw [ht] at hP1
  obtain ⟨hP, hD⟩ := va_join (wr := ([] : va_W)) (w1 := (wC cJ b1 b0 bw bq bf w en pl cu li ld fb)) hP hD [0, 1, 2, 3, 4] [] rfl rfl (by decide) (by decide) hk1 hFc hP1 hD1
  clear hk1 hP1 hK1 hD1 hvm hz1 hPc hDc hFc
  generalize H1 = H at hP hS ⊢
  have hP : va_P (dC, dI) vwCl (wC cJ b1 b0 bw bq bf w en pl cu li ld fb) H := hP
  have hD : va_D A (wC cJ b1 b0 bw bq bf w en pl cu li ld fb) := hD
  refine lv_aload_n hx hb dX1_appendIfRoom_7 rfl (lv_at hl 0 rfl) ?_
  refine va_get (D := (dC, dI)) (ci := 1) (v := .ref b0) (C := RX1) (T := TX1) (N := 4) hx hb hts inn_X1_appendIfRoom_X1 hown hK hP 0 rfl rfl 0 (by decide) (hts (.fieldLink RX1 12 "SelfEndingCodes" "row" "LSelfEndingCodes$BitRow;") (by decide +kernel)) (fun _ h9 => h9) rfl dX1_appendIfRoom_8 ?_
  obtain ⟨v2, hc, hj⟩ := ja_bd hj
  try dsimp only at hj
  have hPc := hP.sub (ws' := (wB cJ b0 bw w en pl cu)) [1, 2] rfl
  have hDc := hD.sub (ws' := (wB cJ b0 bw w en pl cu)) [1, 2] (by decide) rfl
  have hFc := va_free (wc := (wB cJ b0 bw w en pl cu)) hD hS hA [1, 2] rfl
  refine va_calli (va_runV (As := []) (rest := [.long v1]) ⟨hx, hb, hml, hown, hts⟩ (c_X0_room l dC dI cI cJ b0 bw H.size w en pl cu _ hc) (cwV 0 hts gX1_appendIfRoom_X0_room rfl rfl rfl (by decide +kernel) ⟨Nat.le_of_ble_eq_true rfl, Nat.le_of_ble_eq_true rfl⟩) ⟨fun a U g mk q => ⟨q.1, jPr.blind q.2⟩, va_recv hK hPc (ci := 0) (q0 := 0) rfl rfl, fun U hU hW => ⟨rfl, jPr.mk hU hW hPc hK hDc⟩⟩ rfl rfl hl.1 rfl (lv_room (Nat.le_of_ble_eq_true rfl)) dX1_appendIfRoom_11 ⟨Nat.le_of_ble_eq_true rfl, Nat.le_of_ble_eq_true rfl⟩) hS (fun q _ h => hFc q h) hFc (fun rr u t H1 locs ht hvm hw9 hB hz1 hk1 hS => ?_)
  have hw8 : v2 = rr := hw9.symm
  subst hw8
  obtain ⟨hP1, hK1, hD1⟩ := hB
  rw [ht] at hP1
  obtain ⟨hP, hD⟩ := va_join (wr := ([(b1, .inr (1, [.ref b0, .ref bq, .ref bf, .int ld])), (bq, .inl (cJ, 100, .inr (.inl li))), (bf, .inl (cJ, 89, .inr (.inl fb)))] : va_W)) (w1 := (wB cJ b0 bw w en pl cu)) hP hD [1, 2] [0, 3, 4] rfl rfl (by decide) (by decide) hk1 hFc hP1 hD1
  replace hP := hP.sub (ws' := (wC cJ b1 b0 bw bq bf w en pl cu li ld fb)) [0, 3, 4, 1, 2] rfl
  replace hD := hD.sub (ws' := (wC cJ b1 b0 bw bq bf w en pl cu li ld fb)) [0, 3, 4, 1, 2] (by decide) rfl
  clear hk1 hP1 hK1 hD1 hvm hz1 hPc hDc hFc
  generalize H1 = H at hP hS ⊢
  have hP : va_P (dC, dI) vwCl (wC cJ b1 b0 bw bq bf w en pl cu li ld fb) H := hP
  have hD : va_D A (wC cJ b1 b0 bw bq bf w en pl cu li ld fb) := hD
  refine lv_i2l hx hb dX1_appendIfRoom_14 rfl ?_
  refine W.lcmp hx hb dX1_appendIfRoom_15 ?_
  refine lv_if_le (tgt := 21) hx hb dX1_appendIfRoom_16 (by decide) (fun c3 => ?_) (fun c3 => ?_)
  · replace hj := ja_pos ((lg_cmp_le v1 v2.toInt64).mp c3) hj
    refine lv_aload_n hx hb dX1_appendIfRoom_21 rfl (lv_at hl 0 rfl) ?_
    refine lv_iload_n hx hb dX1_appendIfRoom_22 rfl (lv_at hl 1 rfl) ?_
    refine lv_iload_n hx hb dX1_appendIfRoom_23 rfl (lv_at hl 2 rfl) ?_
    refine lv_lload_n hx hb dX1_appendIfRoom_24 rfl (lv_at hl 3 rfl) ?_
    obtain ⟨⟨v4, v5⟩, hc, hj⟩ := ja_bd hj
    try dsimp only at hj
    have hPc := hP.sub (ws' := (wC cJ b1 b0 bw bq bf w en pl cu li ld fb)) [0, 1, 2, 3, 4] rfl
    have hDc := hD.sub (ws' := (wC cJ b1 b0 bw bq bf w en pl cu li ld fb)) [0, 1, 2, 3, 4] (by decide) rfl
    have hFc := va_free (wc := (wC cJ b1 b0 bw bq bf w en pl cu li ld fb)) hD hS hA [0, 1, 2, 3, 4] rfl
    refine va_callv (va_runV (As := [.int a1, .int a2, .long a3]) (rest := []) ⟨hx, hb, hml, hown, hts⟩ (c_X1_appendCodeword l dC dI cI cJ b1 b0 bw bq bf H.size w en pl cu li ld fb a1 a2 a3 _ hc) (cwV 3 hts gX1_appendIfRoom_X1_appendCodeword rfl rfl rfl (by decide +kernel) ⟨Nat.le_of_ble_eq_true rfl, Nat.le_of_ble_eq_true rfl⟩) ⟨fun a U g mk q => ⟨q.1, jPr.blind q.2.1, jNs.blind q.2.2⟩, va_recv hK hPc (ci := 1) (q0 := 0) rfl rfl, fun U hU hW => ⟨rfl, jPr.mk hU hW hPc hK hDc, jNs.warm hW hN⟩⟩ rfl rfl hl.1 rfl (lv_room (Nat.le_of_ble_eq_true rfl)) dX1_appendIfRoom_25 ⟨Nat.le_of_ble_eq_true rfl, Nat.le_of_ble_eq_true rfl⟩) hS (fun q _ h => hFc q h) hFc (fun u t H1 locs ht hvm hw9 hB hz1 hk1 hS => ?_)
    obtain ⟨hP1, hK1, hD1⟩ := hB
    rw [ht] at hP1
    obtain ⟨hP, hD⟩ := va_join (wr := ([] : va_W)) (w1 := (wC cJ b1 b0 bw bq bf v4 v5 pl cu li ld fb)) hP hD [0, 1, 2, 3, 4] [] rfl rfl (by decide) (by decide) hk1 hFc hP1 hD1
    clear hk1 hP1 hK1 hD1 hvm hz1 hPc hDc hFc
    generalize H1 = H at hP hS ⊢
    have hP : va_P (dC, dI) vwCl (wC cJ b1 b0 bw bq bf v4 v5 pl cu li ld fb) H := hP
    have hD : va_D A (wC cJ b1 b0 bw bq bf v4 v5 pl cu li ld fb) := hD
    refine lv_iconst (v := (1 : Int32)) hx hb dX1_appendIfRoom_28 (by decide) ?_
    have hr9 : ((1 : Int32), v4, v5) = r := Option.some.inj hj
    subst hr9
    exact W.zret (v := (1 : Int32)) hx hb hr (by decide) (fun t ht hW => ⟨⟨(1 : Int32), (), rfl, rfl, by rw [ht]; exact hP, va_K.moved hW.alike hK, hD⟩, hS.F ht⟩) hS.2.2 dX1_appendIfRoom_29
  · replace hj := ja_neg (fun h9 => c3 ((lg_cmp_le v1 v2.toInt64).mpr h9)) hj
    refine lv_iconst (v := (0 : Int32)) hx hb dX1_appendIfRoom_19 (by decide) ?_
    have hr9 : ((0 : Int32), w, en) = r := Option.some.inj hj
    subst hr9
    exact W.zret (v := (0 : Int32)) hx hb hr (by decide) (fun t ht hW => ⟨⟨(0 : Int32), (), rfl, rfl, by rw [ht]; exact hP, va_K.moved hW.alike hK, hD⟩, hS.F ht⟩) hS.2.2 dX1_appendIfRoom_20

