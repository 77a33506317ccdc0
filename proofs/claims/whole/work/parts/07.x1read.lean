def j_X1_numberOrNone (a1 : Int64) : Option (Int64) :=
  if (4611686018427387904 : Int64) < a1 then (some (-1 : Int64)) else (some a1)
set_option maxHeartbeats 4000000 in
set_option maxRecDepth 100000 in
theorem c_X1_numberOrNone (l : Launch) (dC : Nat → ClassId) (dI : Nat → Nat → Nat) (cI cJ : ClassId) (sz : Nat) (a1 : Int64) (r : Int64) (hj : j_X1_numberOrNone a1 = some r) : Met l yX1_numberOrNone wsX1_numberOrNone ({ frames := 0, cells := 0, slots := 0, locals := 0 } : Room) (va_Pc [.long a1] (fun U => jPr dC dI cI cJ ([] : va_W) sz U)) (va_Ql (fun (v : Int64) (_ : Unit) => v = r) (fun (_ : Unit) t => jPo dC dI cI cJ [] (va_A ([] : va_W) sz) t) (va_A ([] : va_W) sz)) 0 0 (va_A ([] : va_W) sz) := by
  refine Met.ofW (cc := cX1_numberOrNone) (maxL := 2) (ret := (some .long)) (by decide) rfl ?_
  intro p e s m args below meth c s₁ B hml hv
  obtain ⟨rfl, ⟨hsz, hP, hK, hD0⟩⟩ := hv
  have hx := B.exec
  have hb := B.bytes
  have hr := B.returns
  have hts := atoms_spec (ws := wsX1_numberOrNone) B.pre
  have hown : s.vm.findClass RX1 = some m.cls := findClass_of_methodNamed B.named
  have hlocks := B.notSynchronized
  have C0 := jCx.of hx hb hr hml hown hts hlocks
  subst hsz
  have hD := hD0.self (sz := s.heap.size)
  generalize hAe : va_A ([] : va_W) s.heap.size = A at hD ⊢
  have hA : ∀ q : Nat, s.heap.size ≤ q → A q := fun q h => by rw [← hAe]; exact Or.inr h
  have hS : va_S A s.heap s.heap [] := va_S.rf
  have hP : va_P (dC, dI) vwCl ([] : va_W) s.heap := hP
  have hl := lv_entry ([.long a1]) (n := 2) (Nat.le_of_ble_eq_true rfl)
  rw [lg_entry_eq]
  generalize (lg_sl ([.long a1]) ++ List.replicate (2 - (lg_sl ([.long a1])).length) Slot.unset).toArray = ls at hl ⊢
  have hl : lv_has ls 2 [(0, .long a1)] := hl
  clear hD0 hAe
  unfold j_X1_numberOrNone at hj
  refine lv_lload_n hx hb dX1_numberOrNone_0 rfl (lv_at hl 0 rfl) ?_
  refine lv_ldc2 (v := (4611686018427387904 : Int64)) hx hb hown (hts (.constantLong RX1 106 (4611686018427387904)) (by decide +kernel)) dX1_numberOrNone_1 ?_
  refine W.lcmp hx hb dX1_numberOrNone_4 ?_
  refine lv_if_gt (tgt := 12) hx hb dX1_numberOrNone_5 (by decide) (fun c1 => ?_) (fun c1 => ?_)
  · replace hj := ja_pos ((lg_cmp_gt a1 (4611686018427387904 : Int64)).mp c1) hj
    refine lv_ldc2 (v := (-1 : Int64)) hx hb hown (hts (.constantLong RX1 97 (-1)) (by decide +kernel)) dX1_numberOrNone_12 ?_
    have hr9 : (-1 : Int64) = r := Option.some.inj hj
    subst hr9
    exact W.lret (v := (-1 : Int64)) hx hb hr (fun t ht hW => ⟨⟨(-1 : Int64), (), rfl, rfl, by rw [ht]; exact hP, va_K.moved hW.alike hK, hD⟩, hS.F ht⟩) hS.2.2 dX1_numberOrNone_15
  · replace hj := ja_neg (fun h9 => c1 ((lg_cmp_gt a1 (4611686018427387904 : Int64)).mpr h9)) hj
    refine lv_lload_n hx hb dX1_numberOrNone_8 rfl (lv_at hl 0 rfl) ?_
    refine lv_goto (tgt := 15) hx hb dX1_numberOrNone_9 (by decide) ?_
    have hr9 : a1 = r := Option.some.inj hj
    subst hr9
    exact W.lret (v := a1) hx hb hr (fun t ht hW => ⟨⟨a1, (), rfl, rfl, by rw [ht]; exact hP, va_K.moved hW.alike hK, hD⟩, hS.F ht⟩) hS.2.2 dX1_numberOrNone_15

set_option maxRecDepth 100000 in
theorem inn_X1_readGamma_X1 : ∀ w ∈ u_ws RX1 TX1 4, w ∈ wsX1_readGamma := by decide +kernel
def jL_X1_readGamma_2 (w : Nat → Int64) (en : Int32) : Nat → Int32 → Int32 → Option (Int64 × Int32)
  | 0, _, _ => none
  | n + 1, x1, cu => if (63 : Int32) ≤ x1 then (some ((-1 : Int64), cu)) else ((j_X0_readBit w en cu).bind fun (v202, v203) => (if v202 = (1 : Int32) then ((j_X0_readBits w en v203 (1 : Int64) x1).bind fun (v205, v206) => ((j_X1_numberOrNone v205).bind fun v207 => (some (v207, v206)))) else (jL_X1_readGamma_2 w en n (x1 + (1 : Int32)) v203)))
set_option maxHeartbeats 4000000 in
set_option maxRecDepth 100000 in
theorem s_X1_readGamma_2 {p : Program} {l : Launch} {e : Env} {s : State} {m : MethodId} {args : Array Value} {below : List Frame} {meth : Method} {c : Code} {dC : Nat → ClassId} {dI : Nat → Nat → Nat} {cI cJ : ClassId} {A : Nat → Prop} (C0 : jCx p s m args meth c RX1 cX1_readGamma 2 (some .long) wsX1_readGamma) (hK : va_K (dC, dI) vwCl (jTy cI cJ) s) (hA : ∀ q : Nat, s.heap.size ≤ q → A q) (hN : jNs s) (b1 : Nat) (b0 : Nat) (bw : Nat) (bq : Nat) (bf : Nat) (w : Nat → Int64) (en : Int32) (pl : Int32) (li : Nat → Int64) (ld : Int32) (fb : Nat → Int64) :
    ∀ (n : Nat) (x1 : Int32) (cu : Int32) (r : Int64 × Int32), jL_X1_readGamma_2 w en n x1 cu = some r → ∀ (H : Heap) (locs : List Loc) (ls : Array Slot), va_P (dC, dI) vwCl (wC cJ b1 b0 bw bq bf w en pl cu li ld fb) H → va_D A (wC cJ b1 b0 bw bq bf w en pl cu li ld fb) → va_S A s.heap H locs → lv_has ls 2 [(0, .ref b1), (1, .int x1)] → W p l e ({ frames := 2, cells := 0, slots := 0, locals := 48 } : Room) s m args below meth c H locs 0 0 (MQ below (va_Ql (fun (v : Int64) (_ : Unit) => v = r.1) (fun (_ : Unit) t => jPo dC dI cI cJ (wC cJ b1 b0 bw bq bf w en pl r.2 li ld fb) A t) A) args s 0 0 A) (F0 m 2 ls []) := by
  obtain ⟨hx, hb, hr, hml, hown, hts, hlocks⟩ := id C0
  intro n
  induction n with
  | zero =>
    intro x1 cu r hj
    exact nomatch (show (none : Option (Int64 × Int32)) = some r from hj)
  | succ n ih =>
    intro x1 cu r hj H locs ls hP hD hS hl
    replace hj : (if (63 : Int32) ≤ x1 then (some ((-1 : Int64), cu)) else ((j_X0_readBit w en cu).bind fun (v202, v203) => (if v202 = (1 : Int32) then ((j_X0_readBits w en v203 (1 : Int64) x1).bind fun (v205, v206) => ((j_X1_numberOrNone v205).bind fun v207 => (some (v207, v206)))) else (jL_X1_readGamma_2 w en n (x1 + (1 : Int32)) v203)))) = some r := hj
    refine lv_iload_n hx hb dX1_readGamma_2 rfl (lv_at hl 1 rfl) ?_
    refine lv_bipush (v := (63 : Int32)) hx hb dX1_readGamma_3 (by decide) ?_
    refine lv_icmp_ge (tgt := 38) hx hb dX1_readGamma_5 (by decide) (fun c201 => ?_) (fun c201 => ?_)
    · replace hj := ja_pos c201 hj
      refine lv_ldc2 (v := (-1 : Int64)) hx hb hown (hts (.constantLong RX1 97 (-1)) (by decide +kernel)) dX1_readGamma_38 ?_
      have hr9 : ((-1 : Int64), cu) = r := Option.some.inj hj
      subst hr9
      exact W.lret (v := (-1 : Int64)) hx hb hr (fun t ht hW => ⟨⟨(-1 : Int64), (), rfl, rfl, by rw [ht]; exact hP, va_K.moved hW.alike hK, hD⟩, hS.F ht⟩) hS.2.2 dX1_readGamma_41
    · replace hj := ja_neg c201 hj
      refine lv_aload_n hx hb dX1_readGamma_8 rfl (lv_at hl 0 rfl) ?_
      refine va_get (D := (dC, dI)) (ci := 1) (v := .ref b0) (C := RX1) (T := TX1) (N := 4) hx hb hts inn_X1_readGamma_X1 hown hK hP 0 rfl rfl 0 (by decide) (hts (.fieldLink RX1 12 "SelfEndingCodes" "row" "LSelfEndingCodes$BitRow;") (by decide +kernel)) (fun _ h9 => h9) rfl dX1_readGamma_9 ?_
      obtain ⟨⟨v202, v203⟩, hc, hj⟩ := ja_bd hj
      try dsimp only at hj
      have hPc := hP.sub (ws' := (wB cJ b0 bw w en pl cu)) [1, 2] rfl
      have hDc := hD.sub (ws' := (wB cJ b0 bw w en pl cu)) [1, 2] (by decide) rfl
      have hFc := va_free (wc := (wB cJ b0 bw w en pl cu)) hD hS hA [1, 2] rfl
      refine va_calli (va_runV (As := []) (rest := []) ⟨hx, hb, hml, hown, hts⟩ (c_X0_readBit l dC dI cI cJ b0 bw H.size w en pl cu _ hc) (cwV 0 hts gX1_readGamma_X0_readBit rfl rfl rfl (by decide +kernel) ⟨Nat.le_of_ble_eq_true rfl, Nat.le_of_ble_eq_true rfl⟩) ⟨fun a U g mk q => ⟨q.1, jPr.blind q.2⟩, va_recv hK hPc (ci := 0) (q0 := 0) rfl rfl, fun U hU hW => ⟨rfl, jPr.mk hU hW hPc hK hDc⟩⟩ rfl rfl hl.1 rfl (lv_room (Nat.le_of_ble_eq_true rfl)) dX1_readGamma_12 ⟨Nat.le_of_ble_eq_true rfl, Nat.le_of_ble_eq_true rfl⟩) hS (fun q _ h => hFc q h) hFc (fun rr u t H1 locs ht hvm hw9 hB hz1 hk1 hS => ?_)
      have hw8 : v202 = rr := hw9.symm
      subst hw8
      obtain ⟨hP1, hK1, hD1⟩ := hB
      rw [ht] at hP1
      obtain ⟨hP, hD⟩ := va_join (wr := ([(b1, .inr (1, [.ref b0, .ref bq, .ref bf, .int ld])), (bq, .inl (cJ, 100, .inr (.inl li))), (bf, .inl (cJ, 89, .inr (.inl fb)))] : va_W)) (w1 := (wB cJ b0 bw w en pl v203)) hP hD [1, 2] [0, 3, 4] rfl rfl (by decide) (by decide) hk1 hFc hP1 hD1
      replace hP := hP.sub (ws' := (wC cJ b1 b0 bw bq bf w en pl v203 li ld fb)) [0, 3, 4, 1, 2] rfl
      replace hD := hD.sub (ws' := (wC cJ b1 b0 bw bq bf w en pl v203 li ld fb)) [0, 3, 4, 1, 2] (by decide) rfl
      clear hk1 hP1 hK1 hD1 hvm hz1 hPc hDc hFc
      generalize H1 = H at hP hS ⊢
      have hP : va_P (dC, dI) vwCl (wC cJ b1 b0 bw bq bf w en pl v203 li ld fb) H := hP
      have hD : va_D A (wC cJ b1 b0 bw bq bf w en pl v203 li ld fb) := hD
      refine lv_iconst (v := (1 : Int32)) hx hb dX1_readGamma_15 (by decide) ?_
      refine lv_icmp_ne (tgt := 32) hx hb dX1_readGamma_16 (by decide) (fun c204 => ?_) (fun c204 => ?_)
      · replace hj := ja_neg c204 hj
        refine lv_iinc (v := x1 + (1 : Int32)) (lv' := [(1, .int (x1 + (1 : Int32))), (0, .ref b1)]) hx hb dX1_readGamma_32 hl (k := 1) rfl (congrArg (fun z => x1 + z) (by decide)) (by decide) rfl (fun ls hl => ?_)
        refine lv_goto (tgt := 2) hx hb dX1_readGamma_35 (by decide) ?_
        exact ih (x1 + (1 : Int32)) v203 _ hj _ _ _ (hP) (hD) hS (lv_sub hl [1, 0] rfl)
      · replace hj := ja_pos c204 hj
        refine lv_aload_n hx hb dX1_readGamma_19 rfl (lv_at hl 0 rfl) ?_
        refine va_get (D := (dC, dI)) (ci := 1) (v := .ref b0) (C := RX1) (T := TX1) (N := 4) hx hb hts inn_X1_readGamma_X1 hown hK hP 0 rfl rfl 0 (by decide) (hts (.fieldLink RX1 12 "SelfEndingCodes" "row" "LSelfEndingCodes$BitRow;") (by decide +kernel)) (fun _ h9 => h9) rfl dX1_readGamma_20 ?_
        refine lv_lconst (v := (1 : Int64)) hx hb dX1_readGamma_23 (by decide) ?_
        refine lv_iload_n hx hb dX1_readGamma_24 rfl (lv_at hl 1 rfl) ?_
        obtain ⟨⟨v205, v206⟩, hc, hj⟩ := ja_bd hj
        try dsimp only at hj
        have hPc := hP.sub (ws' := (wB cJ b0 bw w en pl v203)) [1, 2] rfl
        have hDc := hD.sub (ws' := (wB cJ b0 bw w en pl v203)) [1, 2] (by decide) rfl
        have hFc := va_free (wc := (wB cJ b0 bw w en pl v203)) hD hS hA [1, 2] rfl
        refine va_calll (va_runV (As := [.long (1 : Int64), .int x1]) (rest := []) ⟨hx, hb, hml, hown, hts⟩ (c_X0_readBits l dC dI cI cJ b0 bw H.size w en pl v203 (1 : Int64) x1 _ hc) (cwV 2 hts gX1_readGamma_X0_readBits rfl rfl rfl (by decide +kernel) ⟨Nat.le_of_ble_eq_true rfl, Nat.le_of_ble_eq_true rfl⟩) ⟨fun a U g mk q => ⟨q.1, jPr.blind q.2⟩, va_recv hK hPc (ci := 0) (q0 := 0) rfl rfl, fun U hU hW => ⟨rfl, jPr.mk hU hW hPc hK hDc⟩⟩ rfl rfl hl.1 rfl (lv_room (Nat.le_of_ble_eq_true rfl)) dX1_readGamma_25 ⟨Nat.le_of_ble_eq_true rfl, Nat.le_of_ble_eq_true rfl⟩) hS (fun q _ h => hFc q h) hFc (fun rr u t H1 locs ht hvm hw9 hB hz1 hk1 hS => ?_)
        have hw8 : v205 = rr := hw9.symm
        subst hw8
        obtain ⟨hP1, hK1, hD1⟩ := hB
        rw [ht] at hP1
        obtain ⟨hP, hD⟩ := va_join (wr := ([(b1, .inr (1, [.ref b0, .ref bq, .ref bf, .int ld])), (bq, .inl (cJ, 100, .inr (.inl li))), (bf, .inl (cJ, 89, .inr (.inl fb)))] : va_W)) (w1 := (wB cJ b0 bw w en pl v206)) hP hD [1, 2] [0, 3, 4] rfl rfl (by decide) (by decide) hk1 hFc hP1 hD1
        replace hP := hP.sub (ws' := (wC cJ b1 b0 bw bq bf w en pl v206 li ld fb)) [0, 3, 4, 1, 2] rfl
        replace hD := hD.sub (ws' := (wC cJ b1 b0 bw bq bf w en pl v206 li ld fb)) [0, 3, 4, 1, 2] (by decide) rfl
        clear hk1 hP1 hK1 hD1 hvm hz1 hPc hDc hFc
        generalize H1 = H at hP hS ⊢
        have hP : va_P (dC, dI) vwCl (wC cJ b1 b0 bw bq bf w en pl v206 li ld fb) H := hP
        have hD : va_D A (wC cJ b1 b0 bw bq bf w en pl v206 li ld fb) := hD
        obtain ⟨v207, hc, hj⟩ := ja_bd hj
        try dsimp only at hj
        have hPc := hP.sub (ws' := ([] : va_W)) [] rfl
        have hDc := hD.sub (ws' := ([] : va_W)) [] (by decide) rfl
        have hFc := va_free (wc := ([] : va_W)) hD hS hA [] rfl
        refine va_calll (va_runS (As := [.long v205]) (rest := []) ⟨hx, hb, hml, hown, hts⟩ (c_X1_numberOrNone l dC dI cI cJ H.size v205 _ hc) (va_cwS 1 hts gX1_readGamma_X1_numberOrNone rfl rfl rfl (by decide +kernel) ⟨Nat.le_of_ble_eq_true rfl, Nat.le_of_ble_eq_true rfl⟩) ⟨fun a U g mk q => ⟨q.1, jPr.blind q.2⟩, fun U hU hW => ⟨rfl, jPr.mk hU hW hPc hK hDc⟩⟩ rfl rfl hl.1 rfl (lv_room (Nat.le_of_ble_eq_true rfl)) dX1_readGamma_28 ⟨Nat.le_of_ble_eq_true rfl, Nat.le_of_ble_eq_true rfl⟩) hS (fun q _ h => hFc q h) hFc (fun rr u t H1 locs ht hvm hw9 hB hz1 hk1 hS => ?_)
        have hw8 : v207 = rr := hw9.symm
        subst hw8
        obtain ⟨hP1, hK1, hD1⟩ := hB
        rw [ht] at hP1
        obtain ⟨hP, hD⟩ := va_join (wr := ([(b1, .inr (1, [.ref b0, .ref bq, .ref bf, .int ld])), (b0, .inr (0, [.ref bw, .int en, .int pl, .int v206])), (bw, .inl (cJ, 64, .inr (.inl w))), (bq, .inl (cJ, 100, .inr (.inl li))), (bf, .inl (cJ, 89, .inr (.inl fb)))] : va_W)) (w1 := ([] : va_W)) hP hD [] [0, 1, 2, 3, 4] rfl rfl (by decide) (by decide) hk1 hFc hP1 hD1
        clear hk1 hP1 hK1 hD1 hvm hz1 hPc hDc hFc
        generalize H1 = H at hP hS ⊢
        have hP : va_P (dC, dI) vwCl (wC cJ b1 b0 bw bq bf w en pl v206 li ld fb) H := hP
        have hD : va_D A (wC cJ b1 b0 bw bq bf w en pl v206 li ld fb) := hD
        have hr9 : (v207, v206) = r := Option.some.inj hj
        subst hr9
        exact W.lret (v := v207) hx hb hr (fun t ht hW => ⟨⟨v207, (), rfl, rfl, by rw [ht]; exact hP, va_K.moved hW.alike hK, hD⟩, hS.F ht⟩) hS.2.2 dX1_readGamma_31
def j_X1_readGamma (w : Nat → Int64) (en : Int32) (cu : Int32) : Option (Int64 × Int32) :=
  jL_X1_readGamma_2 w en jF (0 : Int32) cu
set_option maxHeartbeats 4000000 in
set_option maxRecDepth 100000 in
theorem c_X1_readGamma (l : Launch) (dC : Nat → ClassId) (dI : Nat → Nat → Nat) (cI cJ : ClassId) (b1 : Nat) (b0 : Nat) (bw : Nat) (bq : Nat) (bf : Nat) (sz : Nat) (w : Nat → Int64) (en : Int32) (pl : Int32) (cu : Int32) (li : Nat → Int64) (ld : Int32) (fb : Nat → Int64) (r : Int64 × Int32) (hj : j_X1_readGamma w en cu = some r) : Met l yX1_readGamma wsX1_readGamma ({ frames := 2, cells := 0, slots := 0, locals := 48 } : Room) (va_Pc [.ref b1] (fun U => jPr dC dI cI cJ (wC cJ b1 b0 bw bq bf w en pl cu li ld fb) sz U ∧ jNs U)) (va_Ql (fun (v : Int64) (_ : Unit) => v = r.1) (fun (_ : Unit) t => jPo dC dI cI cJ (wC cJ b1 b0 bw bq bf w en pl r.2 li ld fb) (va_A (wC cJ b1 b0 bw bq bf w en pl cu li ld fb) sz) t) (va_A (wC cJ b1 b0 bw bq bf w en pl cu li ld fb) sz)) 0 0 (va_A (wC cJ b1 b0 bw bq bf w en pl cu li ld fb) sz) := by
  refine Met.ofW (cc := cX1_readGamma) (maxL := 2) (ret := (some .long)) (by decide) rfl ?_
  intro p e s m args below meth c s₁ B hml hv
  obtain ⟨rfl, ⟨hsz, hP, hK, hD0⟩, hN⟩ := hv
  have hx := B.exec
  have hb := B.bytes
  have hr := B.returns
  have hts := atoms_spec (ws := wsX1_readGamma) B.pre
  have hown : s.vm.findClass RX1 = some m.cls := findClass_of_methodNamed B.named
  have hlocks := B.notSynchronized
  have C0 := jCx.of hx hb hr hml hown hts hlocks
  subst hsz
  have hD := hD0.self (sz := s.heap.size)
  generalize hAe : va_A (wC cJ b1 b0 bw bq bf w en pl cu li ld fb) s.heap.size = A at hD ⊢
  have hA : ∀ q : Nat, s.heap.size ≤ q → A q := fun q h => by rw [← hAe]; exact Or.inr h
  have hS : va_S A s.heap s.heap [] := va_S.rf
  have hP : va_P (dC, dI) vwCl (wC cJ b1 b0 bw bq bf w en pl cu li ld fb) s.heap := hP
  have hl := lv_entry ([.ref b1]) (n := 2) (Nat.le_of_ble_eq_true rfl)
  rw [lg_entry_eq]
  generalize (lg_sl ([.ref b1]) ++ List.replicate (2 - (lg_sl ([.ref b1])).length) Slot.unset).toArray = ls at hl ⊢
  have hl : lv_has ls 2 [(0, .ref b1)] := hl
  clear hD0 hAe
  unfold j_X1_readGamma at hj
  refine lv_iconst (v := (0 : Int32)) hx hb dX1_readGamma_0 (by decide) ?_
  refine lv_istore_n (lv' := [(1, .int (0 : Int32)), (0, .ref b1)]) hx hb dX1_readGamma_1 rfl hl (by decide) rfl (fun ls hl => ?_)
  exact s_X1_readGamma_2 C0 hK hA hN b1 b0 bw bq bf w en pl li ld fb jF (0 : Int32) cu _ hj _ _ _ (hP) (hD) hS (lv_sub hl [1, 0] rfl)

set_option maxRecDepth 100000 in
theorem inn_X1_readDelta_X1 : ∀ w ∈ u_ws RX1 TX1 4, w ∈ wsX1_readDelta := by decide +kernel
def j_X1_readDelta (w : Nat → Int64) (en : Int32) (cu : Int32) : Option (Int64 × Int32) :=
  (j_X1_readGamma w en cu).bind fun (v1, v2) => (if v1 = (-1 : Int64) then (some ((-1 : Int64), v2)) else (if v1 ≤ (63 : Int64) then ((j_X0_readBits w en v2 (1 : Int64) (v1.toInt32 - (1 : Int32))).bind fun (v5, v6) => ((j_X1_numberOrNone v5).bind fun v7 => (some (v7, v6)))) else (some ((-1 : Int64), v2))))
set_option maxHeartbeats 4000000 in
set_option maxRecDepth 100000 in
theorem c_X1_readDelta (l : Launch) (dC : Nat → ClassId) (dI : Nat → Nat → Nat) (cI cJ : ClassId) (b1 : Nat) (b0 : Nat) (bw : Nat) (bq : Nat) (bf : Nat) (sz : Nat) (w : Nat → Int64) (en : Int32) (pl : Int32) (cu : Int32) (li : Nat → Int64) (ld : Int32) (fb : Nat → Int64) (r : Int64 × Int32) (hj : j_X1_readDelta w en cu = some r) : Met l yX1_readDelta wsX1_readDelta ({ frames := 3, cells := 0, slots := 0, locals := 69 } : Room) (va_Pc [.ref b1] (fun U => jPr dC dI cI cJ (wC cJ b1 b0 bw bq bf w en pl cu li ld fb) sz U ∧ jNs U)) (va_Ql (fun (v : Int64) (_ : Unit) => v = r.1) (fun (_ : Unit) t => jPo dC dI cI cJ (wC cJ b1 b0 bw bq bf w en pl r.2 li ld fb) (va_A (wC cJ b1 b0 bw bq bf w en pl cu li ld fb) sz) t) (va_A (wC cJ b1 b0 bw bq bf w en pl cu li ld fb) sz)) 0 0 (va_A (wC cJ b1 b0 bw bq bf w en pl cu li ld fb) sz) := by
  refine Met.ofW (cc := cX1_readDelta) (maxL := 3) (ret := (some .long)) (by decide) rfl ?_
  intro p e s m args below meth c s₁ B hml hv
  obtain ⟨rfl, ⟨hsz, hP, hK, hD0⟩, hN⟩ := hv
  have hx := B.exec
  have hb := B.bytes
  have hr := B.returns
  have hts := atoms_spec (ws := wsX1_readDelta) B.pre
  have hown : s.vm.findClass RX1 = some m.cls := findClass_of_methodNamed B.named
  have hlocks := B.notSynchronized
  have C0 := jCx.of hx hb hr hml hown hts hlocks
  subst hsz
  have hD := hD0.self (sz := s.heap.size)
  generalize hAe : va_A (wC cJ b1 b0 bw bq bf w en pl cu li ld fb) s.heap.size = A at hD ⊢
  have hA : ∀ q : Nat, s.heap.size ≤ q → A q := fun q h => by rw [← hAe]; exact Or.inr h
  have hS : va_S A s.heap s.heap [] := va_S.rf
  have hP : va_P (dC, dI) vwCl (wC cJ b1 b0 bw bq bf w en pl cu li ld fb) s.heap := hP
  have hl := lv_entry ([.ref b1]) (n := 3) (Nat.le_of_ble_eq_true rfl)
  rw [lg_entry_eq]
  generalize (lg_sl ([.ref b1]) ++ List.replicate (3 - (lg_sl ([.ref b1])).length) Slot.unset).toArray = ls at hl ⊢
  have hl : lv_has ls 3 [(0, .ref b1)] := hl
  clear hD0 hAe
  unfold j_X1_readDelta at hj
  refine lv_aload_n hx hb dX1_readDelta_0 rfl (lv_at hl 0 rfl) ?_
  obtain ⟨⟨v1, v2⟩, hc, hj⟩ := ja_bd hj
  try dsimp only at hj
  have hPc := hP.sub (ws' := (wC cJ b1 b0 bw bq bf w en pl cu li ld fb)) [0, 1, 2, 3, 4] rfl
  have hDc := hD.sub (ws' := (wC cJ b1 b0 bw bq bf w en pl cu li ld fb)) [0, 1, 2, 3, 4] (by decide) rfl
  have hFc := va_free (wc := (wC cJ b1 b0 bw bq bf w en pl cu li ld fb)) hD hS hA [0, 1, 2, 3, 4] rfl
  refine va_calll (va_runV (As := []) (rest := []) ⟨hx, hb, hml, hown, hts⟩ (c_X1_readGamma l dC dI cI cJ b1 b0 bw bq bf s.heap.size w en pl cu li ld fb _ hc) (cwV 0 hts gX1_readDelta_X1_readGamma rfl rfl rfl (by decide +kernel) ⟨Nat.le_of_ble_eq_true rfl, Nat.le_of_ble_eq_true rfl⟩) ⟨fun a U g mk q => ⟨q.1, jPr.blind q.2.1, jNs.blind q.2.2⟩, va_recv hK hPc (ci := 1) (q0 := 0) rfl rfl, fun U hU hW => ⟨rfl, jPr.mk hU hW hPc hK hDc, jNs.warm hW hN⟩⟩ rfl rfl hl.1 rfl (lv_room (Nat.le_of_ble_eq_true rfl)) dX1_readDelta_1 ⟨Nat.le_of_ble_eq_true rfl, Nat.le_of_ble_eq_true rfl⟩) hS (fun q _ h => hFc q h) hFc (fun rr u t H1 locs ht hvm hw9 hB hz1 hk1 hS => ?_)
  have hw8 : v1 = rr := hw9.symm
  subst hw8
  obtain ⟨hP1, hK1, hD1⟩ := hB
  rw [ht] at hP1
  obtain ⟨hP, hD⟩ := va_join (wr := ([] : va_W)) (w1 := (wC cJ b1 b0 bw bq bf w en pl v2 li ld fb)) hP hD [0, 1, 2, 3, 4] [] rfl rfl (by decide) (by decide) hk1 hFc hP1 hD1
  clear hk1 hP1 hK1 hD1 hvm hz1 hPc hDc hFc
  generalize H1 = H at hP hS ⊢
  have hP : va_P (dC, dI) vwCl (wC cJ b1 b0 bw bq bf w en pl v2 li ld fb) H := hP
  have hD : va_D A (wC cJ b1 b0 bw bq bf w en pl v2 li ld fb) := hD
  refine lv_lstore_n (lv' := [(1, .long v1), (0, .ref b1)]) hx hb dX1_readDelta_4 rfl hl (by decide) rfl (fun ls hl => ?_)
  refine lv_lload_n hx hb dX1_readDelta_5 rfl (lv_at hl 0 rfl) ?_
  refine lv_ldc2 (v := (-1 : Int64)) hx hb hown (hts (.constantLong RX1 97 (-1)) (by decide +kernel)) dX1_readDelta_6 ?_
  refine W.lcmp hx hb dX1_readDelta_9 ?_
  refine lv_if_eq (tgt := 21) hx hb dX1_readDelta_10 (by decide) (fun c3 => ?_) (fun c3 => ?_)
  · replace hj := ja_pos ((lg_cmp_eq v1 (-1 : Int64)).mp c3) hj
    refine lv_ldc2 (v := (-1 : Int64)) hx hb hown (hts (.constantLong RX1 97 (-1)) (by decide +kernel)) dX1_readDelta_21 ?_
    have hr9 : ((-1 : Int64), v2) = r := Option.some.inj hj
    subst hr9
    exact W.lret (v := (-1 : Int64)) hx hb hr (fun t ht hW => ⟨⟨(-1 : Int64), (), rfl, rfl, by rw [ht]; exact hP, va_K.moved hW.alike hK, hD⟩, hS.F ht⟩) hS.2.2 dX1_readDelta_24
  · replace hj := ja_neg (fun h9 => c3 ((lg_cmp_eq v1 (-1 : Int64)).mpr h9)) hj
    refine lv_lload_n hx hb dX1_readDelta_13 rfl (lv_at hl 0 rfl) ?_
    refine lv_ldc2 (v := (63 : Int64)) hx hb hown (hts (.constantLong RX1 233 (63)) (by decide +kernel)) dX1_readDelta_14 ?_
    refine W.lcmp hx hb dX1_readDelta_17 ?_
    refine lv_if_le (tgt := 25) hx hb dX1_readDelta_18 (by decide) (fun c4 => ?_) (fun c4 => ?_)
    · replace hj := ja_pos ((lg_cmp_le v1 (63 : Int64)).mp c4) hj
      refine lv_aload_n hx hb dX1_readDelta_25 rfl (lv_at hl 1 rfl) ?_
      refine va_get (D := (dC, dI)) (ci := 1) (v := .ref b0) (C := RX1) (T := TX1) (N := 4) hx hb hts inn_X1_readDelta_X1 hown hK hP 0 rfl rfl 0 (by decide) (hts (.fieldLink RX1 12 "SelfEndingCodes" "row" "LSelfEndingCodes$BitRow;") (by decide +kernel)) (fun _ h9 => h9) rfl dX1_readDelta_26 ?_
      refine lv_lconst (v := (1 : Int64)) hx hb dX1_readDelta_29 (by decide) ?_
      refine lv_lload_n hx hb dX1_readDelta_30 rfl (lv_at hl 0 rfl) ?_
      refine lv_l2i hx hb dX1_readDelta_31 rfl ?_
      refine lv_iconst (v := (1 : Int32)) hx hb dX1_readDelta_32 (by decide) ?_
      refine lv_isub hx hb dX1_readDelta_33 ?_
      obtain ⟨⟨v5, v6⟩, hc, hj⟩ := ja_bd hj
      try dsimp only at hj
      have hPc := hP.sub (ws' := (wB cJ b0 bw w en pl v2)) [1, 2] rfl
      have hDc := hD.sub (ws' := (wB cJ b0 bw w en pl v2)) [1, 2] (by decide) rfl
      have hFc := va_free (wc := (wB cJ b0 bw w en pl v2)) hD hS hA [1, 2] rfl
      refine va_calll (va_runV (As := [.long (1 : Int64), .int (v1.toInt32 - (1 : Int32))]) (rest := []) ⟨hx, hb, hml, hown, hts⟩ (c_X0_readBits l dC dI cI cJ b0 bw H.size w en pl v2 (1 : Int64) (v1.toInt32 - (1 : Int32)) _ hc) (cwV 2 hts gX1_readDelta_X0_readBits rfl rfl rfl (by decide +kernel) ⟨Nat.le_of_ble_eq_true rfl, Nat.le_of_ble_eq_true rfl⟩) ⟨fun a U g mk q => ⟨q.1, jPr.blind q.2⟩, va_recv hK hPc (ci := 0) (q0 := 0) rfl rfl, fun U hU hW => ⟨rfl, jPr.mk hU hW hPc hK hDc⟩⟩ rfl rfl hl.1 rfl (lv_room (Nat.le_of_ble_eq_true rfl)) dX1_readDelta_34 ⟨Nat.le_of_ble_eq_true rfl, Nat.le_of_ble_eq_true rfl⟩) hS (fun q _ h => hFc q h) hFc (fun rr u t H1 locs ht hvm hw9 hB hz1 hk1 hS => ?_)
      have hw8 : v5 = rr := hw9.symm
      subst hw8
      obtain ⟨hP1, hK1, hD1⟩ := hB
      rw [ht] at hP1
      obtain ⟨hP, hD⟩ := va_join (wr := ([(b1, .inr (1, [.ref b0, .ref bq, .ref bf, .int ld])), (bq, .inl (cJ, 100, .inr (.inl li))), (bf, .inl (cJ, 89, .inr (.inl fb)))] : va_W)) (w1 := (wB cJ b0 bw w en pl v6)) hP hD [1, 2] [0, 3, 4] rfl rfl (by decide) (by decide) hk1 hFc hP1 hD1
      replace hP := hP.sub (ws' := (wC cJ b1 b0 bw bq bf w en pl v6 li ld fb)) [0, 3, 4, 1, 2] rfl
      replace hD := hD.sub (ws' := (wC cJ b1 b0 bw bq bf w en pl v6 li ld fb)) [0, 3, 4, 1, 2] (by decide) rfl
      clear hk1 hP1 hK1 hD1 hvm hz1 hPc hDc hFc
      generalize H1 = H at hP hS ⊢
      have hP : va_P (dC, dI) vwCl (wC cJ b1 b0 bw bq bf w en pl v6 li ld fb) H := hP
      have hD : va_D A (wC cJ b1 b0 bw bq bf w en pl v6 li ld fb) := hD
      obtain ⟨v7, hc, hj⟩ := ja_bd hj
      try dsimp only at hj
      have hPc := hP.sub (ws' := ([] : va_W)) [] rfl
      have hDc := hD.sub (ws' := ([] : va_W)) [] (by decide) rfl
      have hFc := va_free (wc := ([] : va_W)) hD hS hA [] rfl
      refine va_calll (va_runS (As := [.long v5]) (rest := []) ⟨hx, hb, hml, hown, hts⟩ (c_X1_numberOrNone l dC dI cI cJ H.size v5 _ hc) (va_cwS 1 hts gX1_readDelta_X1_numberOrNone rfl rfl rfl (by decide +kernel) ⟨Nat.le_of_ble_eq_true rfl, Nat.le_of_ble_eq_true rfl⟩) ⟨fun a U g mk q => ⟨q.1, jPr.blind q.2⟩, fun U hU hW => ⟨rfl, jPr.mk hU hW hPc hK hDc⟩⟩ rfl rfl hl.1 rfl (lv_room (Nat.le_of_ble_eq_true rfl)) dX1_readDelta_37 ⟨Nat.le_of_ble_eq_true rfl, Nat.le_of_ble_eq_true rfl⟩) hS (fun q _ h => hFc q h) hFc (fun rr u t H1 locs ht hvm hw9 hB hz1 hk1 hS => ?_)
      have hw8 : v7 = rr := hw9.symm
      subst hw8
      obtain ⟨hP1, hK1, hD1⟩ := hB
      rw [ht] at hP1
      obtain ⟨hP, hD⟩ := va_join (wr := ([(b1, .inr (1, [.ref b0, .ref bq, .ref bf, .int ld])), (b0, .inr (0, [.ref bw, .int en, .int pl, .int v6])), (bw, .inl (cJ, 64, .inr (.inl w))), (bq, .inl (cJ, 100, .inr (.inl li))), (bf, .inl (cJ, 89, .inr (.inl fb)))] : va_W)) (w1 := ([] : va_W)) hP hD [] [0, 1, 2, 3, 4] rfl rfl (by decide) (by decide) hk1 hFc hP1 hD1
      clear hk1 hP1 hK1 hD1 hvm hz1 hPc hDc hFc
      generalize H1 = H at hP hS ⊢
      have hP : va_P (dC, dI) vwCl (wC cJ b1 b0 bw bq bf w en pl v6 li ld fb) H := hP
      have hD : va_D A (wC cJ b1 b0 bw bq bf w en pl v6 li ld fb) := hD
      have hr9 : (v7, v6) = r := Option.some.inj hj
      subst hr9
      exact W.lret (v := v7) hx hb hr (fun t ht hW => ⟨⟨v7, (), rfl, rfl, by rw [ht]; exact hP, va_K.moved hW.alike hK, hD⟩, hS.F ht⟩) hS.2.2 dX1_readDelta_40
    · replace hj := ja_neg (fun h9 => c4 ((lg_cmp_le v1 (63 : Int64)).mpr h9)) hj
      refine lv_ldc2 (v := (-1 : Int64)) hx hb hown (hts (.constantLong RX1 97 (-1)) (by decide +kernel)) dX1_readDelta_21 ?_
      have hr9 : ((-1 : Int64), v2) = r := Option.some.inj hj
      subst hr9
      exact W.lret (v := (-1 : Int64)) hx hb hr (fun t ht hW => ⟨⟨(-1 : Int64), (), rfl, rfl, by rw [ht]; exact hP, va_K.moved hW.alike hK, hD⟩, hS.F ht⟩) hS.2.2 dX1_readDelta_24

set_option maxRecDepth 100000 in
theorem inn_X1_readOmega_X1 : ∀ w ∈ u_ws RX1 TX1 4, w ∈ wsX1_readOmega := by decide +kernel
def jL_X1_readOmega_4 (w : Nat → Int64) (en : Int32) : Nat → Int64 → Int32 → Int32 → Option (Int64 × Int32)
  | 0, _, _, _ => none
  | n + 1, x1, x3, cu => if (8 : Int32) ≤ x3 then (some ((-1 : Int64), cu)) else ((j_X0_readBit w en cu).bind fun (v402, v403) => (if v402 = (0 : Int32) then ((j_X1_numberOrNone x1).bind fun v408 => (some (v408, v403))) else (if x1 < (63 : Int64) then ((j_X0_readBits w en v403 (1 : Int64) x1.toInt32).bind fun (v406, v407) => (jL_X1_readOmega_4 w en n v406 (x3 + (1 : Int32)) v407)) else (some ((-1 : Int64), v403)))))
set_option maxHeartbeats 4000000 in
set_option maxRecDepth 100000 in
theorem s_X1_readOmega_4 {p : Program} {l : Launch} {e : Env} {s : State} {m : MethodId} {args : Array Value} {below : List Frame} {meth : Method} {c : Code} {dC : Nat → ClassId} {dI : Nat → Nat → Nat} {cI cJ : ClassId} {A : Nat → Prop} (C0 : jCx p s m args meth c RX1 cX1_readOmega 4 (some .long) wsX1_readOmega) (hK : va_K (dC, dI) vwCl (jTy cI cJ) s) (hA : ∀ q : Nat, s.heap.size ≤ q → A q) (hN : jNs s) (b1 : Nat) (b0 : Nat) (bw : Nat) (bq : Nat) (bf : Nat) (w : Nat → Int64) (en : Int32) (pl : Int32) (li : Nat → Int64) (ld : Int32) (fb : Nat → Int64) :
    ∀ (n : Nat) (x1 : Int64) (x3 : Int32) (cu : Int32) (r : Int64 × Int32), jL_X1_readOmega_4 w en n x1 x3 cu = some r → ∀ (H : Heap) (locs : List Loc) (ls : Array Slot), va_P (dC, dI) vwCl (wC cJ b1 b0 bw bq bf w en pl cu li ld fb) H → va_D A (wC cJ b1 b0 bw bq bf w en pl cu li ld fb) → va_S A s.heap H locs → lv_has ls 4 [(0, .ref b1), (1, .long x1), (3, .int x3)] → W p l e ({ frames := 2, cells := 0, slots := 0, locals := 48 } : Room) s m args below meth c H locs 0 0 (MQ below (va_Ql (fun (v : Int64) (_ : Unit) => v = r.1) (fun (_ : Unit) t => jPo dC dI cI cJ (wC cJ b1 b0 bw bq bf w en pl r.2 li ld fb) A t) A) args s 0 0 A) (F0 m 4 ls []) := by
  obtain ⟨hx, hb, hr, hml, hown, hts, hlocks⟩ := id C0
  intro n
  induction n with
  | zero =>
    intro x1 x3 cu r hj
    exact nomatch (show (none : Option (Int64 × Int32)) = some r from hj)
  | succ n ih =>
    intro x1 x3 cu r hj H locs ls hP hD hS hl
    replace hj : (if (8 : Int32) ≤ x3 then (some ((-1 : Int64), cu)) else ((j_X0_readBit w en cu).bind fun (v402, v403) => (if v402 = (0 : Int32) then ((j_X1_numberOrNone x1).bind fun v408 => (some (v408, v403))) else (if x1 < (63 : Int64) then ((j_X0_readBits w en v403 (1 : Int64) x1.toInt32).bind fun (v406, v407) => (jL_X1_readOmega_4 w en n v406 (x3 + (1 : Int32)) v407)) else (some ((-1 : Int64), v403)))))) = some r := hj
    refine lv_iload_n hx hb dX1_readOmega_4 rfl (lv_at hl 2 rfl) ?_
    refine lv_bipush (v := (8 : Int32)) hx hb dX1_readOmega_5 (by decide) ?_
    refine lv_icmp_ge (tgt := 54) hx hb dX1_readOmega_7 (by decide) (fun c401 => ?_) (fun c401 => ?_)
    · replace hj := ja_pos c401 hj
      refine lv_ldc2 (v := (-1 : Int64)) hx hb hown (hts (.constantLong RX1 97 (-1)) (by decide +kernel)) dX1_readOmega_54 ?_
      have hr9 : ((-1 : Int64), cu) = r := Option.some.inj hj
      subst hr9
      exact W.lret (v := (-1 : Int64)) hx hb hr (fun t ht hW => ⟨⟨(-1 : Int64), (), rfl, rfl, by rw [ht]; exact hP, va_K.moved hW.alike hK, hD⟩, hS.F ht⟩) hS.2.2 dX1_readOmega_57
    · replace hj := ja_neg c401 hj
      refine lv_aload_n hx hb dX1_readOmega_10 rfl (lv_at hl 0 rfl) ?_
      refine va_get (D := (dC, dI)) (ci := 1) (v := .ref b0) (C := RX1) (T := TX1) (N := 4) hx hb hts inn_X1_readOmega_X1 hown hK hP 0 rfl rfl 0 (by decide) (hts (.fieldLink RX1 12 "SelfEndingCodes" "row" "LSelfEndingCodes$BitRow;") (by decide +kernel)) (fun _ h9 => h9) rfl dX1_readOmega_11 ?_
      obtain ⟨⟨v402, v403⟩, hc, hj⟩ := ja_bd hj
      try dsimp only at hj
      have hPc := hP.sub (ws' := (wB cJ b0 bw w en pl cu)) [1, 2] rfl
      have hDc := hD.sub (ws' := (wB cJ b0 bw w en pl cu)) [1, 2] (by decide) rfl
      have hFc := va_free (wc := (wB cJ b0 bw w en pl cu)) hD hS hA [1, 2] rfl
      refine va_calli (va_runV (As := []) (rest := []) ⟨hx, hb, hml, hown, hts⟩ (c_X0_readBit l dC dI cI cJ b0 bw H.size w en pl cu _ hc) (cwV 0 hts gX1_readOmega_X0_readBit rfl rfl rfl (by decide +kernel) ⟨Nat.le_of_ble_eq_true rfl, Nat.le_of_ble_eq_true rfl⟩) ⟨fun a U g mk q => ⟨q.1, jPr.blind q.2⟩, va_recv hK hPc (ci := 0) (q0 := 0) rfl rfl, fun U hU hW => ⟨rfl, jPr.mk hU hW hPc hK hDc⟩⟩ rfl rfl hl.1 rfl (lv_room (Nat.le_of_ble_eq_true rfl)) dX1_readOmega_14 ⟨Nat.le_of_ble_eq_true rfl, Nat.le_of_ble_eq_true rfl⟩) hS (fun q _ h => hFc q h) hFc (fun rr u t H1 locs ht hvm hw9 hB hz1 hk1 hS => ?_)
      have hw8 : v402 = rr := hw9.symm
      subst hw8
      obtain ⟨hP1, hK1, hD1⟩ := hB
      rw [ht] at hP1
      obtain ⟨hP, hD⟩ := va_join (wr := ([(b1, .inr (1, [.ref b0, .ref bq, .ref bf, .int ld])), (bq, .inl (cJ, 100, .inr (.inl li))), (bf, .inl (cJ, 89, .inr (.inl fb)))] : va_W)) (w1 := (wB cJ b0 bw w en pl v403)) hP hD [1, 2] [0, 3, 4] rfl rfl (by decide) (by decide) hk1 hFc hP1 hD1
      replace hP := hP.sub (ws' := (wC cJ b1 b0 bw bq bf w en pl v403 li ld fb)) [0, 3, 4, 1, 2] rfl
      replace hD := hD.sub (ws' := (wC cJ b1 b0 bw bq bf w en pl v403 li ld fb)) [0, 3, 4, 1, 2] (by decide) rfl
      clear hk1 hP1 hK1 hD1 hvm hz1 hPc hDc hFc
      generalize H1 = H at hP hS ⊢
      have hP : va_P (dC, dI) vwCl (wC cJ b1 b0 bw bq bf w en pl v403 li ld fb) H := hP
      have hD : va_D A (wC cJ b1 b0 bw bq bf w en pl v403 li ld fb) := hD
      refine lv_if_ne (tgt := 25) hx hb dX1_readOmega_17 (by decide) (fun c404 => ?_) (fun c404 => ?_)
      · replace hj := ja_neg c404 hj
        refine lv_lload_n hx hb dX1_readOmega_25 rfl (lv_at hl 1 rfl) ?_
        refine lv_ldc2 (v := (63 : Int64)) hx hb hown (hts (.constantLong RX1 233 (63)) (by decide +kernel)) dX1_readOmega_26 ?_
        refine W.lcmp hx hb dX1_readOmega_29 ?_
        refine lv_if_lt (tgt := 37) hx hb dX1_readOmega_30 (by decide) (fun c405 => ?_) (fun c405 => ?_)
        · replace hj := ja_pos ((lg_cmp_lt x1 (63 : Int64)).mp c405) hj
          refine lv_aload_n hx hb dX1_readOmega_37 rfl (lv_at hl 0 rfl) ?_
          refine va_get (D := (dC, dI)) (ci := 1) (v := .ref b0) (C := RX1) (T := TX1) (N := 4) hx hb hts inn_X1_readOmega_X1 hown hK hP 0 rfl rfl 0 (by decide) (hts (.fieldLink RX1 12 "SelfEndingCodes" "row" "LSelfEndingCodes$BitRow;") (by decide +kernel)) (fun _ h9 => h9) rfl dX1_readOmega_38 ?_
          refine lv_lconst (v := (1 : Int64)) hx hb dX1_readOmega_41 (by decide) ?_
          refine lv_lload_n hx hb dX1_readOmega_42 rfl (lv_at hl 1 rfl) ?_
          refine lv_l2i hx hb dX1_readOmega_43 rfl ?_
          obtain ⟨⟨v406, v407⟩, hc, hj⟩ := ja_bd hj
          try dsimp only at hj
          have hPc := hP.sub (ws' := (wB cJ b0 bw w en pl v403)) [1, 2] rfl
          have hDc := hD.sub (ws' := (wB cJ b0 bw w en pl v403)) [1, 2] (by decide) rfl
          have hFc := va_free (wc := (wB cJ b0 bw w en pl v403)) hD hS hA [1, 2] rfl
          refine va_calll (va_runV (As := [.long (1 : Int64), .int x1.toInt32]) (rest := []) ⟨hx, hb, hml, hown, hts⟩ (c_X0_readBits l dC dI cI cJ b0 bw H.size w en pl v403 (1 : Int64) x1.toInt32 _ hc) (cwV 2 hts gX1_readOmega_X0_readBits rfl rfl rfl (by decide +kernel) ⟨Nat.le_of_ble_eq_true rfl, Nat.le_of_ble_eq_true rfl⟩) ⟨fun a U g mk q => ⟨q.1, jPr.blind q.2⟩, va_recv hK hPc (ci := 0) (q0 := 0) rfl rfl, fun U hU hW => ⟨rfl, jPr.mk hU hW hPc hK hDc⟩⟩ rfl rfl hl.1 rfl (lv_room (Nat.le_of_ble_eq_true rfl)) dX1_readOmega_44 ⟨Nat.le_of_ble_eq_true rfl, Nat.le_of_ble_eq_true rfl⟩) hS (fun q _ h => hFc q h) hFc (fun rr u t H1 locs ht hvm hw9 hB hz1 hk1 hS => ?_)
          have hw8 : v406 = rr := hw9.symm
          subst hw8
          obtain ⟨hP1, hK1, hD1⟩ := hB
          rw [ht] at hP1
          obtain ⟨hP, hD⟩ := va_join (wr := ([(b1, .inr (1, [.ref b0, .ref bq, .ref bf, .int ld])), (bq, .inl (cJ, 100, .inr (.inl li))), (bf, .inl (cJ, 89, .inr (.inl fb)))] : va_W)) (w1 := (wB cJ b0 bw w en pl v407)) hP hD [1, 2] [0, 3, 4] rfl rfl (by decide) (by decide) hk1 hFc hP1 hD1
          replace hP := hP.sub (ws' := (wC cJ b1 b0 bw bq bf w en pl v407 li ld fb)) [0, 3, 4, 1, 2] rfl
          replace hD := hD.sub (ws' := (wC cJ b1 b0 bw bq bf w en pl v407 li ld fb)) [0, 3, 4, 1, 2] (by decide) rfl
          clear hk1 hP1 hK1 hD1 hvm hz1 hPc hDc hFc
          generalize H1 = H at hP hS ⊢
          have hP : va_P (dC, dI) vwCl (wC cJ b1 b0 bw bq bf w en pl v407 li ld fb) H := hP
          have hD : va_D A (wC cJ b1 b0 bw bq bf w en pl v407 li ld fb) := hD
          refine lv_lstore_n (lv' := [(1, .long v406), (0, .ref b1), (3, .int x3)]) hx hb dX1_readOmega_47 rfl hl (by decide) rfl (fun ls hl => ?_)
          refine lv_iinc (v := x3 + (1 : Int32)) (lv' := [(3, .int (x3 + (1 : Int32))), (1, .long v406), (0, .ref b1)]) hx hb dX1_readOmega_48 hl (k := 2) rfl (congrArg (fun z => x3 + z) (by decide)) (by decide) rfl (fun ls hl => ?_)
          refine lv_goto (tgt := 4) hx hb dX1_readOmega_51 (by decide) ?_
          exact ih v406 (x3 + (1 : Int32)) v407 _ hj _ _ _ (hP) (hD) hS (lv_sub hl [2, 1, 0] rfl)
        · replace hj := ja_neg (fun h9 => c405 ((lg_cmp_lt x1 (63 : Int64)).mpr h9)) hj
          refine lv_ldc2 (v := (-1 : Int64)) hx hb hown (hts (.constantLong RX1 97 (-1)) (by decide +kernel)) dX1_readOmega_33 ?_
          have hr9 : ((-1 : Int64), v403) = r := Option.some.inj hj
          subst hr9
          exact W.lret (v := (-1 : Int64)) hx hb hr (fun t ht hW => ⟨⟨(-1 : Int64), (), rfl, rfl, by rw [ht]; exact hP, va_K.moved hW.alike hK, hD⟩, hS.F ht⟩) hS.2.2 dX1_readOmega_36
      · replace hj := ja_pos c404 hj
        refine lv_lload_n hx hb dX1_readOmega_20 rfl (lv_at hl 1 rfl) ?_
        obtain ⟨v408, hc, hj⟩ := ja_bd hj
        try dsimp only at hj
        have hPc := hP.sub (ws' := ([] : va_W)) [] rfl
        have hDc := hD.sub (ws' := ([] : va_W)) [] (by decide) rfl
        have hFc := va_free (wc := ([] : va_W)) hD hS hA [] rfl
        refine va_calll (va_runS (As := [.long x1]) (rest := []) ⟨hx, hb, hml, hown, hts⟩ (c_X1_numberOrNone l dC dI cI cJ H.size x1 _ hc) (va_cwS 1 hts gX1_readOmega_X1_numberOrNone rfl rfl rfl (by decide +kernel) ⟨Nat.le_of_ble_eq_true rfl, Nat.le_of_ble_eq_true rfl⟩) ⟨fun a U g mk q => ⟨q.1, jPr.blind q.2⟩, fun U hU hW => ⟨rfl, jPr.mk hU hW hPc hK hDc⟩⟩ rfl rfl hl.1 rfl (lv_room (Nat.le_of_ble_eq_true rfl)) dX1_readOmega_21 ⟨Nat.le_of_ble_eq_true rfl, Nat.le_of_ble_eq_true rfl⟩) hS (fun q _ h => hFc q h) hFc (fun rr u t H1 locs ht hvm hw9 hB hz1 hk1 hS => ?_)
        have hw8 : v408 = rr := hw9.symm
        subst hw8
        obtain ⟨hP1, hK1, hD1⟩ := hB
        rw [ht] at hP1
        obtain ⟨hP, hD⟩ := va_join (wr := ([(b1, .inr (1, [.ref b0, .ref bq, .ref bf, .int ld])), (b0, .inr (0, [.ref bw, .int en, .int pl, .int v403])), (bw, .inl (cJ, 64, .inr (.inl w))), (bq, .inl (cJ, 100, .inr (.inl li))), (bf, .inl (cJ, 89, .inr (.inl fb)))] : va_W)) (w1 := ([] : va_W)) hP hD [] [0, 1, 2, 3, 4] rfl rfl (by decide) (by decide) hk1 hFc hP1 hD1
        clear hk1 hP1 hK1 hD1 hvm hz1 hPc hDc hFc
        generalize H1 = H at hP hS ⊢
        have hP : va_P (dC, dI) vwCl (wC cJ b1 b0 bw bq bf w en pl v403 li ld fb) H := hP
        have hD : va_D A (wC cJ b1 b0 bw bq bf w en pl v403 li ld fb) := hD
        have hr9 : (v408, v403) = r := Option.some.inj hj
        subst hr9
        exact W.lret (v := v408) hx hb hr (fun t ht hW => ⟨⟨v408, (), rfl, rfl, by rw [ht]; exact hP, va_K.moved hW.alike hK, hD⟩, hS.F ht⟩) hS.2.2 dX1_readOmega_24
def j_X1_readOmega (w : Nat → Int64) (en : Int32) (cu : Int32) : Option (Int64 × Int32) :=
  jL_X1_readOmega_4 w en jF (1 : Int64) (0 : Int32) cu
set_option maxHeartbeats 4000000 in
set_option maxRecDepth 100000 in
theorem c_X1_readOmega (l : Launch) (dC : Nat → ClassId) (dI : Nat → Nat → Nat) (cI cJ : ClassId) (b1 : Nat) (b0 : Nat) (bw : Nat) (bq : Nat) (bf : Nat) (sz : Nat) (w : Nat → Int64) (en : Int32) (pl : Int32) (cu : Int32) (li : Nat → Int64) (ld : Int32) (fb : Nat → Int64) (r : Int64 × Int32) (hj : j_X1_readOmega w en cu = some r) : Met l yX1_readOmega wsX1_readOmega ({ frames := 2, cells := 0, slots := 0, locals := 48 } : Room) (va_Pc [.ref b1] (fun U => jPr dC dI cI cJ (wC cJ b1 b0 bw bq bf w en pl cu li ld fb) sz U ∧ jNs U)) (va_Ql (fun (v : Int64) (_ : Unit) => v = r.1) (fun (_ : Unit) t => jPo dC dI cI cJ (wC cJ b1 b0 bw bq bf w en pl r.2 li ld fb) (va_A (wC cJ b1 b0 bw bq bf w en pl cu li ld fb) sz) t) (va_A (wC cJ b1 b0 bw bq bf w en pl cu li ld fb) sz)) 0 0 (va_A (wC cJ b1 b0 bw bq bf w en pl cu li ld fb) sz) := by
  refine Met.ofW (cc := cX1_readOmega) (maxL := 4) (ret := (some .long)) (by decide) rfl ?_
  intro p e s m args below meth c s₁ B hml hv
  obtain ⟨rfl, ⟨hsz, hP, hK, hD0⟩, hN⟩ := hv
  have hx := B.exec
  have hb := B.bytes
  have hr := B.returns
  have hts := atoms_spec (ws := wsX1_readOmega) B.pre
  have hown : s.vm.findClass RX1 = some m.cls := findClass_of_methodNamed B.named
  have hlocks := B.notSynchronized
  have C0 := jCx.of hx hb hr hml hown hts hlocks
  subst hsz
  have hD := hD0.self (sz := s.heap.size)
  generalize hAe : va_A (wC cJ b1 b0 bw bq bf w en pl cu li ld fb) s.heap.size = A at hD ⊢
  have hA : ∀ q : Nat, s.heap.size ≤ q → A q := fun q h => by rw [← hAe]; exact Or.inr h
  have hS : va_S A s.heap s.heap [] := va_S.rf
  have hP : va_P (dC, dI) vwCl (wC cJ b1 b0 bw bq bf w en pl cu li ld fb) s.heap := hP
  have hl := lv_entry ([.ref b1]) (n := 4) (Nat.le_of_ble_eq_true rfl)
  rw [lg_entry_eq]
  generalize (lg_sl ([.ref b1]) ++ List.replicate (4 - (lg_sl ([.ref b1])).length) Slot.unset).toArray = ls at hl ⊢
  have hl : lv_has ls 4 [(0, .ref b1)] := hl
  clear hD0 hAe
  unfold j_X1_readOmega at hj
  refine lv_lconst (v := (1 : Int64)) hx hb dX1_readOmega_0 (by decide) ?_
  refine lv_lstore_n (lv' := [(1, .long (1 : Int64)), (0, .ref b1)]) hx hb dX1_readOmega_1 rfl hl (by decide) rfl (fun ls hl => ?_)
  refine lv_iconst (v := (0 : Int32)) hx hb dX1_readOmega_2 (by decide) ?_
  refine lv_istore_n (lv' := [(3, .int (0 : Int32)), (1, .long (1 : Int64)), (0, .ref b1)]) hx hb dX1_readOmega_3 rfl hl (by decide) rfl (fun ls hl => ?_)
  exact s_X1_readOmega_4 C0 hK hA hN b1 b0 bw bq bf w en pl li ld fb jF (1 : Int64) (0 : Int32) cu _ hj _ _ _ (hP) (hD) hS (lv_sub hl [2, 1, 0] rfl)

set_option maxRecDepth 100000 in
theorem inn_X1_readFibonacci_X1 : ∀ w ∈ u_ws RX1 TX1 4, w ∈ wsX1_readFibonacci := by decide +kernel
def jL_X1_readFibonacci_7 (w : Nat → Int64) (en : Int32) (fb : Nat → Int64) : Nat → Int64 → Int32 → Int32 → Int32 → Option (Int64 × Int32)
  | 0, _, _, _, _ => none
  | n + 1, x1, x3, x4, cu => if (89 : Int32) ≤ x4 then (if x3 = (1 : Int32) then ((j_X0_readBit w en cu).bind fun (v703, v704) => (if v703 = (1 : Int32) then ((j_X1_numberOrNone x1).bind fun v706 => (some (v706, v704))) else (some ((-1 : Int64), v704)))) else (some ((-1 : Int64), cu))) else ((j_X0_readBit w en cu).bind fun (v707, v708) => (if v707 = (1 : Int32) then (if x3 = (1 : Int32) then ((j_X1_numberOrNone x1).bind fun v711 => (some (v711, v708))) else (jix x4 89 (jL_X1_readFibonacci_7 w en fb n (x1 + (v707.toInt64 * (fb x4.toNatClampNeg))) v707 (x4 + (1 : Int32)) v708))) else (jix x4 89 (jL_X1_readFibonacci_7 w en fb n (x1 + (v707.toInt64 * (fb x4.toNatClampNeg))) v707 (x4 + (1 : Int32)) v708))))
set_option maxHeartbeats 4000000 in
set_option maxRecDepth 100000 in
theorem s_X1_readFibonacci_7 {p : Program} {l : Launch} {e : Env} {s : State} {m : MethodId} {args : Array Value} {below : List Frame} {meth : Method} {c : Code} {dC : Nat → ClassId} {dI : Nat → Nat → Nat} {cI cJ : ClassId} {A : Nat → Prop} (C0 : jCx p s m args meth c RX1 cX1_readFibonacci 6 (some .long) wsX1_readFibonacci) (hK : va_K (dC, dI) vwCl (jTy cI cJ) s) (hA : ∀ q : Nat, s.heap.size ≤ q → A q) (hN : jNs s) (b1 : Nat) (b0 : Nat) (bw : Nat) (bq : Nat) (bf : Nat) (w : Nat → Int64) (en : Int32) (pl : Int32) (li : Nat → Int64) (ld : Int32) (fb : Nat → Int64) :
    ∀ (n : Nat) (x1 : Int64) (x3 : Int32) (x4 : Int32) (cu : Int32) (r : Int64 × Int32), jL_X1_readFibonacci_7 w en fb n x1 x3 x4 cu = some r → ∀ (H : Heap) (locs : List Loc) (ls : Array Slot), va_P (dC, dI) vwCl (wC cJ b1 b0 bw bq bf w en pl cu li ld fb) H → va_D A (wC cJ b1 b0 bw bq bf w en pl cu li ld fb) → va_S A s.heap H locs → lv_has ls 6 [(0, .ref b1), (1, .long x1), (3, .int x3), (4, .int x4)] → W p l e ({ frames := 2, cells := 0, slots := 0, locals := 43 } : Room) s m args below meth c H locs 0 0 (MQ below (va_Ql (fun (v : Int64) (_ : Unit) => v = r.1) (fun (_ : Unit) t => jPo dC dI cI cJ (wC cJ b1 b0 bw bq bf w en pl r.2 li ld fb) A t) A) args s 0 0 A) (F0 m 7 ls []) := by
  obtain ⟨hx, hb, hr, hml, hown, hts, hlocks⟩ := id C0
  intro n
  induction n with
  | zero =>
    intro x1 x3 x4 cu r hj
    exact nomatch (show (none : Option (Int64 × Int32)) = some r from hj)
  | succ n ih =>
    intro x1 x3 x4 cu r hj H locs ls hP hD hS hl
    replace hj : (if (89 : Int32) ≤ x4 then (if x3 = (1 : Int32) then ((j_X0_readBit w en cu).bind fun (v703, v704) => (if v703 = (1 : Int32) then ((j_X1_numberOrNone x1).bind fun v706 => (some (v706, v704))) else (some ((-1 : Int64), v704)))) else (some ((-1 : Int64), cu))) else ((j_X0_readBit w en cu).bind fun (v707, v708) => (if v707 = (1 : Int32) then (if x3 = (1 : Int32) then ((j_X1_numberOrNone x1).bind fun v711 => (some (v711, v708))) else (jix x4 89 (jL_X1_readFibonacci_7 w en fb n (x1 + (v707.toInt64 * (fb x4.toNatClampNeg))) v707 (x4 + (1 : Int32)) v708))) else (jix x4 89 (jL_X1_readFibonacci_7 w en fb n (x1 + (v707.toInt64 * (fb x4.toNatClampNeg))) v707 (x4 + (1 : Int32)) v708))))) = some r := hj
    refine lv_iload hx hb dX1_readFibonacci_7 (lv_at hl 3 rfl) ?_
    refine lv_bipush (v := (89 : Int32)) hx hb dX1_readFibonacci_9 (by decide) ?_
    refine lv_icmp_ge (tgt := 62) hx hb dX1_readFibonacci_11 (by decide) (fun c701 => ?_) (fun c701 => ?_)
    · replace hj := ja_pos c701 hj
      refine lv_iload_n hx hb dX1_readFibonacci_62 rfl (lv_at hl 2 rfl) ?_
      refine lv_iconst (v := (1 : Int32)) hx hb dX1_readFibonacci_63 (by decide) ?_
      refine lv_icmp_ne (tgt := 85) hx hb dX1_readFibonacci_64 (by decide) (fun c702 => ?_) (fun c702 => ?_)
      · replace hj := ja_neg c702 hj
        refine lv_ldc2 (v := (-1 : Int64)) hx hb hown (hts (.constantLong RX1 97 (-1)) (by decide +kernel)) dX1_readFibonacci_85 ?_
        have hr9 : ((-1 : Int64), cu) = r := Option.some.inj hj
        subst hr9
        exact W.lret (v := (-1 : Int64)) hx hb hr (fun t ht hW => ⟨⟨(-1 : Int64), (), rfl, rfl, by rw [ht]; exact hP, va_K.moved hW.alike hK, hD⟩, hS.F ht⟩) hS.2.2 dX1_readFibonacci_88
      · replace hj := ja_pos c702 hj
        refine lv_aload_n hx hb dX1_readFibonacci_67 rfl (lv_at hl 0 rfl) ?_
        refine va_get (D := (dC, dI)) (ci := 1) (v := .ref b0) (C := RX1) (T := TX1) (N := 4) hx hb hts inn_X1_readFibonacci_X1 hown hK hP 0 rfl rfl 0 (by decide) (hts (.fieldLink RX1 12 "SelfEndingCodes" "row" "LSelfEndingCodes$BitRow;") (by decide +kernel)) (fun _ h9 => h9) rfl dX1_readFibonacci_68 ?_
        obtain ⟨⟨v703, v704⟩, hc, hj⟩ := ja_bd hj
        try dsimp only at hj
        have hPc := hP.sub (ws' := (wB cJ b0 bw w en pl cu)) [1, 2] rfl
        have hDc := hD.sub (ws' := (wB cJ b0 bw w en pl cu)) [1, 2] (by decide) rfl
        have hFc := va_free (wc := (wB cJ b0 bw w en pl cu)) hD hS hA [1, 2] rfl
        refine va_calli (va_runV (As := []) (rest := []) ⟨hx, hb, hml, hown, hts⟩ (c_X0_readBit l dC dI cI cJ b0 bw H.size w en pl cu _ hc) (cwV 0 hts gX1_readFibonacci_X0_readBit rfl rfl rfl (by decide +kernel) ⟨Nat.le_of_ble_eq_true rfl, Nat.le_of_ble_eq_true rfl⟩) ⟨fun a U g mk q => ⟨q.1, jPr.blind q.2⟩, va_recv hK hPc (ci := 0) (q0 := 0) rfl rfl, fun U hU hW => ⟨rfl, jPr.mk hU hW hPc hK hDc⟩⟩ rfl rfl hl.1 rfl (lv_room (Nat.le_of_ble_eq_true rfl)) dX1_readFibonacci_71 ⟨Nat.le_of_ble_eq_true rfl, Nat.le_of_ble_eq_true rfl⟩) hS (fun q _ h => hFc q h) hFc (fun rr u t H1 locs ht hvm hw9 hB hz1 hk1 hS => ?_)
        have hw8 : v703 = rr := hw9.symm
        subst hw8
        obtain ⟨hP1, hK1, hD1⟩ := hB
        rw [ht] at hP1
        obtain ⟨hP, hD⟩ := va_join (wr := ([(b1, .inr (1, [.ref b0, .ref bq, .ref bf, .int ld])), (bq, .inl (cJ, 100, .inr (.inl li))), (bf, .inl (cJ, 89, .inr (.inl fb)))] : va_W)) (w1 := (wB cJ b0 bw w en pl v704)) hP hD [1, 2] [0, 3, 4] rfl rfl (by decide) (by decide) hk1 hFc hP1 hD1
        replace hP := hP.sub (ws' := (wC cJ b1 b0 bw bq bf w en pl v704 li ld fb)) [0, 3, 4, 1, 2] rfl
        replace hD := hD.sub (ws' := (wC cJ b1 b0 bw bq bf w en pl v704 li ld fb)) [0, 3, 4, 1, 2] (by decide) rfl
        clear hk1 hP1 hK1 hD1 hvm hz1 hPc hDc hFc
        generalize H1 = H at hP hS ⊢
        have hP : va_P (dC, dI) vwCl (wC cJ b1 b0 bw bq bf w en pl v704 li ld fb) H := hP
        have hD : va_D A (wC cJ b1 b0 bw bq bf w en pl v704 li ld fb) := hD
        refine lv_iconst (v := (1 : Int32)) hx hb dX1_readFibonacci_74 (by decide) ?_
        refine lv_icmp_ne (tgt := 85) hx hb dX1_readFibonacci_75 (by decide) (fun c705 => ?_) (fun c705 => ?_)
        · replace hj := ja_neg c705 hj
          refine lv_ldc2 (v := (-1 : Int64)) hx hb hown (hts (.constantLong RX1 97 (-1)) (by decide +kernel)) dX1_readFibonacci_85 ?_
          have hr9 : ((-1 : Int64), v704) = r := Option.some.inj hj
          subst hr9
          exact W.lret (v := (-1 : Int64)) hx hb hr (fun t ht hW => ⟨⟨(-1 : Int64), (), rfl, rfl, by rw [ht]; exact hP, va_K.moved hW.alike hK, hD⟩, hS.F ht⟩) hS.2.2 dX1_readFibonacci_88
        · replace hj := ja_pos c705 hj
          refine lv_lload_n hx hb dX1_readFibonacci_78 rfl (lv_at hl 1 rfl) ?_
          obtain ⟨v706, hc, hj⟩ := ja_bd hj
          try dsimp only at hj
          have hPc := hP.sub (ws' := ([] : va_W)) [] rfl
          have hDc := hD.sub (ws' := ([] : va_W)) [] (by decide) rfl
          have hFc := va_free (wc := ([] : va_W)) hD hS hA [] rfl
          refine va_calll (va_runS (As := [.long x1]) (rest := []) ⟨hx, hb, hml, hown, hts⟩ (c_X1_numberOrNone l dC dI cI cJ H.size x1 _ hc) (va_cwS 1 hts gX1_readFibonacci_X1_numberOrNone rfl rfl rfl (by decide +kernel) ⟨Nat.le_of_ble_eq_true rfl, Nat.le_of_ble_eq_true rfl⟩) ⟨fun a U g mk q => ⟨q.1, jPr.blind q.2⟩, fun U hU hW => ⟨rfl, jPr.mk hU hW hPc hK hDc⟩⟩ rfl rfl hl.1 rfl (lv_room (Nat.le_of_ble_eq_true rfl)) dX1_readFibonacci_79 ⟨Nat.le_of_ble_eq_true rfl, Nat.le_of_ble_eq_true rfl⟩) hS (fun q _ h => hFc q h) hFc (fun rr u t H1 locs ht hvm hw9 hB hz1 hk1 hS => ?_)
          have hw8 : v706 = rr := hw9.symm
          subst hw8
          obtain ⟨hP1, hK1, hD1⟩ := hB
          rw [ht] at hP1
          obtain ⟨hP, hD⟩ := va_join (wr := ([(b1, .inr (1, [.ref b0, .ref bq, .ref bf, .int ld])), (b0, .inr (0, [.ref bw, .int en, .int pl, .int v704])), (bw, .inl (cJ, 64, .inr (.inl w))), (bq, .inl (cJ, 100, .inr (.inl li))), (bf, .inl (cJ, 89, .inr (.inl fb)))] : va_W)) (w1 := ([] : va_W)) hP hD [] [0, 1, 2, 3, 4] rfl rfl (by decide) (by decide) hk1 hFc hP1 hD1
          clear hk1 hP1 hK1 hD1 hvm hz1 hPc hDc hFc
          generalize H1 = H at hP hS ⊢
          have hP : va_P (dC, dI) vwCl (wC cJ b1 b0 bw bq bf w en pl v704 li ld fb) H := hP
          have hD : va_D A (wC cJ b1 b0 bw bq bf w en pl v704 li ld fb) := hD
          refine lv_goto (tgt := 88) hx hb dX1_readFibonacci_82 (by decide) ?_
          have hr9 : (v706, v704) = r := Option.some.inj hj
          subst hr9
          exact W.lret (v := v706) hx hb hr (fun t ht hW => ⟨⟨v706, (), rfl, rfl, by rw [ht]; exact hP, va_K.moved hW.alike hK, hD⟩, hS.F ht⟩) hS.2.2 dX1_readFibonacci_88
    · replace hj := ja_neg c701 hj
      refine lv_aload_n hx hb dX1_readFibonacci_14 rfl (lv_at hl 0 rfl) ?_
      refine va_get (D := (dC, dI)) (ci := 1) (v := .ref b0) (C := RX1) (T := TX1) (N := 4) hx hb hts inn_X1_readFibonacci_X1 hown hK hP 0 rfl rfl 0 (by decide) (hts (.fieldLink RX1 12 "SelfEndingCodes" "row" "LSelfEndingCodes$BitRow;") (by decide +kernel)) (fun _ h9 => h9) rfl dX1_readFibonacci_15 ?_
      obtain ⟨⟨v707, v708⟩, hc, hj⟩ := ja_bd hj
      try dsimp only at hj
      have hPc := hP.sub (ws' := (wB cJ b0 bw w en pl cu)) [1, 2] rfl
      have hDc := hD.sub (ws' := (wB cJ b0 bw w en pl cu)) [1, 2] (by decide) rfl
      have hFc := va_free (wc := (wB cJ b0 bw w en pl cu)) hD hS hA [1, 2] rfl
      refine va_calli (va_runV (As := []) (rest := []) ⟨hx, hb, hml, hown, hts⟩ (c_X0_readBit l dC dI cI cJ b0 bw H.size w en pl cu _ hc) (cwV 0 hts gX1_readFibonacci_X0_readBit rfl rfl rfl (by decide +kernel) ⟨Nat.le_of_ble_eq_true rfl, Nat.le_of_ble_eq_true rfl⟩) ⟨fun a U g mk q => ⟨q.1, jPr.blind q.2⟩, va_recv hK hPc (ci := 0) (q0 := 0) rfl rfl, fun U hU hW => ⟨rfl, jPr.mk hU hW hPc hK hDc⟩⟩ rfl rfl hl.1 rfl (lv_room (Nat.le_of_ble_eq_true rfl)) dX1_readFibonacci_18 ⟨Nat.le_of_ble_eq_true rfl, Nat.le_of_ble_eq_true rfl⟩) hS (fun q _ h => hFc q h) hFc (fun rr u t H1 locs ht hvm hw9 hB hz1 hk1 hS => ?_)
      have hw8 : v707 = rr := hw9.symm
      subst hw8
      obtain ⟨hP1, hK1, hD1⟩ := hB
      rw [ht] at hP1
      obtain ⟨hP, hD⟩ := va_join (wr := ([(b1, .inr (1, [.ref b0, .ref bq, .ref bf, .int ld])), (bq, .inl (cJ, 100, .inr (.inl li))), (bf, .inl (cJ, 89, .inr (.inl fb)))] : va_W)) (w1 := (wB cJ b0 bw w en pl v708)) hP hD [1, 2] [0, 3, 4] rfl rfl (by decide) (by decide) hk1 hFc hP1 hD1
      replace hP := hP.sub (ws' := (wC cJ b1 b0 bw bq bf w en pl v708 li ld fb)) [0, 3, 4, 1, 2] rfl
      replace hD := hD.sub (ws' := (wC cJ b1 b0 bw bq bf w en pl v708 li ld fb)) [0, 3, 4, 1, 2] (by decide) rfl
      clear hk1 hP1 hK1 hD1 hvm hz1 hPc hDc hFc
      generalize H1 = H at hP hS ⊢
      have hP : va_P (dC, dI) vwCl (wC cJ b1 b0 bw bq bf w en pl v708 li ld fb) H := hP
      have hD : va_D A (wC cJ b1 b0 bw bq bf w en pl v708 li ld fb) := hD
      refine lv_istore (lv' := [(5, .int v707), (0, .ref b1), (1, .long x1), (3, .int x3), (4, .int x4)]) hx hb dX1_readFibonacci_21 hl (by decide) rfl (fun ls hl => ?_)
      refine lv_iload hx hb dX1_readFibonacci_23 (lv_at hl 0 rfl) ?_
      refine lv_iconst (v := (1 : Int32)) hx hb dX1_readFibonacci_25 (by decide) ?_
      refine lv_icmp_ne (tgt := 39) hx hb dX1_readFibonacci_26 (by decide) (fun c709 => ?_) (fun c709 => ?_)
      · replace hj := ja_neg c709 hj
        refine lv_lload_n hx hb dX1_readFibonacci_39 rfl (lv_at hl 2 rfl) ?_
        refine lv_iload hx hb dX1_readFibonacci_40 (lv_at hl 0 rfl) ?_
        refine lv_i2l hx hb dX1_readFibonacci_42 rfl ?_
        refine lv_aload_n hx hb dX1_readFibonacci_43 rfl (lv_at hl 1 rfl) ?_
        refine va_get (D := (dC, dI)) (ci := 1) (v := .ref bf) (C := RX1) (T := TX1) (N := 4) hx hb hts inn_X1_readFibonacci_X1 hown hK hP 0 rfl rfl 2 (by decide) (hts (.fieldLink RX1 24 "SelfEndingCodes" "fibonacci" "[J") (by decide +kernel)) (fun _ h9 => h9) rfl dX1_readFibonacci_44 ?_
        refine lv_iload hx hb dX1_readFibonacci_47 (lv_at hl 4 rfl) ?_
        obtain ⟨hin, hj⟩ := ja_ix hj
        refine va_lald hx hb hK hP 4 1 rfl rfl hin dX1_readFibonacci_49 ?_
        refine lv_lmul hx hb dX1_readFibonacci_50 ?_
        refine lv_ladd hx hb dX1_readFibonacci_51 ?_
        refine lv_lstore_n (lv' := [(1, .long (x1 + (v707.toInt64 * (fb x4.toNatClampNeg)))), (5, .int v707), (0, .ref b1), (3, .int x3), (4, .int x4)]) hx hb dX1_readFibonacci_52 rfl hl (by decide) rfl (fun ls hl => ?_)
        refine lv_iload hx hb dX1_readFibonacci_53 (lv_at hl 1 rfl) ?_
        refine lv_istore_n (lv' := [(3, .int v707), (1, .long (x1 + (v707.toInt64 * (fb x4.toNatClampNeg)))), (5, .int v707), (0, .ref b1), (4, .int x4)]) hx hb dX1_readFibonacci_55 rfl hl (by decide) rfl (fun ls hl => ?_)
        refine lv_iinc (v := x4 + (1 : Int32)) (lv' := [(4, .int (x4 + (1 : Int32))), (3, .int v707), (1, .long (x1 + (v707.toInt64 * (fb x4.toNatClampNeg)))), (5, .int v707), (0, .ref b1)]) hx hb dX1_readFibonacci_56 hl (k := 4) rfl (congrArg (fun z => x4 + z) (by decide)) (by decide) rfl (fun ls hl => ?_)
        refine lv_goto (tgt := 7) hx hb dX1_readFibonacci_59 (by decide) ?_
        exact ih (x1 + (v707.toInt64 * (fb x4.toNatClampNeg))) v707 (x4 + (1 : Int32)) v708 _ hj _ _ _ (hP) (hD) hS (lv_sub hl [4, 2, 1, 0] rfl)
      · replace hj := ja_pos c709 hj
        refine lv_iload_n hx hb dX1_readFibonacci_29 rfl (lv_at hl 3 rfl) ?_
        refine lv_iconst (v := (1 : Int32)) hx hb dX1_readFibonacci_30 (by decide) ?_
        refine lv_icmp_ne (tgt := 39) hx hb dX1_readFibonacci_31 (by decide) (fun c710 => ?_) (fun c710 => ?_)
        · replace hj := ja_neg c710 hj
          refine lv_lload_n hx hb dX1_readFibonacci_39 rfl (lv_at hl 2 rfl) ?_
          refine lv_iload hx hb dX1_readFibonacci_40 (lv_at hl 0 rfl) ?_
          refine lv_i2l hx hb dX1_readFibonacci_42 rfl ?_
          refine lv_aload_n hx hb dX1_readFibonacci_43 rfl (lv_at hl 1 rfl) ?_
          refine va_get (D := (dC, dI)) (ci := 1) (v := .ref bf) (C := RX1) (T := TX1) (N := 4) hx hb hts inn_X1_readFibonacci_X1 hown hK hP 0 rfl rfl 2 (by decide) (hts (.fieldLink RX1 24 "SelfEndingCodes" "fibonacci" "[J") (by decide +kernel)) (fun _ h9 => h9) rfl dX1_readFibonacci_44 ?_
          refine lv_iload hx hb dX1_readFibonacci_47 (lv_at hl 4 rfl) ?_
          obtain ⟨hin, hj⟩ := ja_ix hj
          refine va_lald hx hb hK hP 4 1 rfl rfl hin dX1_readFibonacci_49 ?_
          refine lv_lmul hx hb dX1_readFibonacci_50 ?_
          refine lv_ladd hx hb dX1_readFibonacci_51 ?_
          refine lv_lstore_n (lv' := [(1, .long (x1 + (v707.toInt64 * (fb x4.toNatClampNeg)))), (5, .int v707), (0, .ref b1), (3, .int x3), (4, .int x4)]) hx hb dX1_readFibonacci_52 rfl hl (by decide) rfl (fun ls hl => ?_)
          refine lv_iload hx hb dX1_readFibonacci_53 (lv_at hl 1 rfl) ?_
          refine lv_istore_n (lv' := [(3, .int v707), (1, .long (x1 + (v707.toInt64 * (fb x4.toNatClampNeg)))), (5, .int v707), (0, .ref b1), (4, .int x4)]) hx hb dX1_readFibonacci_55 rfl hl (by decide) rfl (fun ls hl => ?_)
          refine lv_iinc (v := x4 + (1 : Int32)) (lv' := [(4, .int (x4 + (1 : Int32))), (3, .int v707), (1, .long (x1 + (v707.toInt64 * (fb x4.toNatClampNeg)))), (5, .int v707), (0, .ref b1)]) hx hb dX1_readFibonacci_56 hl (k := 4) rfl (congrArg (fun z => x4 + z) (by decide)) (by decide) rfl (fun ls hl => ?_)
          refine lv_goto (tgt := 7) hx hb dX1_readFibonacci_59 (by decide) ?_
          exact ih (x1 + (v707.toInt64 * (fb x4.toNatClampNeg))) v707 (x4 + (1 : Int32)) v708 _ hj _ _ _ (hP) (hD) hS (lv_sub hl [4, 2, 1, 0] rfl)
        · replace hj := ja_pos c710 hj
          refine lv_lload_n hx hb dX1_readFibonacci_34 rfl (lv_at hl 2 rfl) ?_
          obtain ⟨v711, hc, hj⟩ := ja_bd hj
          try dsimp only at hj
          have hPc := hP.sub (ws' := ([] : va_W)) [] rfl
          have hDc := hD.sub (ws' := ([] : va_W)) [] (by decide) rfl
          have hFc := va_free (wc := ([] : va_W)) hD hS hA [] rfl
          refine va_calll (va_runS (As := [.long x1]) (rest := []) ⟨hx, hb, hml, hown, hts⟩ (c_X1_numberOrNone l dC dI cI cJ H.size x1 _ hc) (va_cwS 1 hts gX1_readFibonacci_X1_numberOrNone rfl rfl rfl (by decide +kernel) ⟨Nat.le_of_ble_eq_true rfl, Nat.le_of_ble_eq_true rfl⟩) ⟨fun a U g mk q => ⟨q.1, jPr.blind q.2⟩, fun U hU hW => ⟨rfl, jPr.mk hU hW hPc hK hDc⟩⟩ rfl rfl hl.1 rfl (lv_room (Nat.le_of_ble_eq_true rfl)) dX1_readFibonacci_35 ⟨Nat.le_of_ble_eq_true rfl, Nat.le_of_ble_eq_true rfl⟩) hS (fun q _ h => hFc q h) hFc (fun rr u t H1 locs ht hvm hw9 hB hz1 hk1 hS => ?_)
          have hw8 : v711 = rr := hw9.symm
          subst hw8
          obtain ⟨hP1, hK1, hD1⟩ := hB
          rw [ht] at hP1
          obtain ⟨hP, hD⟩ := va_join (wr := ([(b1, .inr (1, [.ref b0, .ref bq, .ref bf, .int ld])), (b0, .inr (0, [.ref bw, .int en, .int pl, .int v708])), (bw, .inl (cJ, 64, .inr (.inl w))), (bq, .inl (cJ, 100, .inr (.inl li))), (bf, .inl (cJ, 89, .inr (.inl fb)))] : va_W)) (w1 := ([] : va_W)) hP hD [] [0, 1, 2, 3, 4] rfl rfl (by decide) (by decide) hk1 hFc hP1 hD1
          clear hk1 hP1 hK1 hD1 hvm hz1 hPc hDc hFc
          generalize H1 = H at hP hS ⊢
          have hP : va_P (dC, dI) vwCl (wC cJ b1 b0 bw bq bf w en pl v708 li ld fb) H := hP
          have hD : va_D A (wC cJ b1 b0 bw bq bf w en pl v708 li ld fb) := hD
          have hr9 : (v711, v708) = r := Option.some.inj hj
          subst hr9
          exact W.lret (v := v711) hx hb hr (fun t ht hW => ⟨⟨v711, (), rfl, rfl, by rw [ht]; exact hP, va_K.moved hW.alike hK, hD⟩, hS.F ht⟩) hS.2.2 dX1_readFibonacci_38
def j_X1_readFibonacci (w : Nat → Int64) (en : Int32) (cu : Int32) (fb : Nat → Int64) : Option (Int64 × Int32) :=
  jL_X1_readFibonacci_7 w en fb jF (0 : Int64) (0 : Int32) (0 : Int32) cu
set_option maxHeartbeats 4000000 in
set_option maxRecDepth 100000 in
theorem c_X1_readFibonacci (l : Launch) (dC : Nat → ClassId) (dI : Nat → Nat → Nat) (cI cJ : ClassId) (b1 : Nat) (b0 : Nat) (bw : Nat) (bq : Nat) (bf : Nat) (sz : Nat) (w : Nat → Int64) (en : Int32) (pl : Int32) (cu : Int32) (li : Nat → Int64) (ld : Int32) (fb : Nat → Int64) (r : Int64 × Int32) (hj : j_X1_readFibonacci w en cu fb = some r) : Met l yX1_readFibonacci wsX1_readFibonacci ({ frames := 2, cells := 0, slots := 0, locals := 43 } : Room) (va_Pc [.ref b1] (fun U => jPr dC dI cI cJ (wC cJ b1 b0 bw bq bf w en pl cu li ld fb) sz U ∧ jNs U)) (va_Ql (fun (v : Int64) (_ : Unit) => v = r.1) (fun (_ : Unit) t => jPo dC dI cI cJ (wC cJ b1 b0 bw bq bf w en pl r.2 li ld fb) (va_A (wC cJ b1 b0 bw bq bf w en pl cu li ld fb) sz) t) (va_A (wC cJ b1 b0 bw bq bf w en pl cu li ld fb) sz)) 0 0 (va_A (wC cJ b1 b0 bw bq bf w en pl cu li ld fb) sz) := by
  refine Met.ofW (cc := cX1_readFibonacci) (maxL := 6) (ret := (some .long)) (by decide) rfl ?_
  intro p e s m args below meth c s₁ B hml hv
  obtain ⟨rfl, ⟨hsz, hP, hK, hD0⟩, hN⟩ := hv
  have hx := B.exec
  have hb := B.bytes
  have hr := B.returns
  have hts := atoms_spec (ws := wsX1_readFibonacci) B.pre
  have hown : s.vm.findClass RX1 = some m.cls := findClass_of_methodNamed B.named
  have hlocks := B.notSynchronized
  have C0 := jCx.of hx hb hr hml hown hts hlocks
  subst hsz
  have hD := hD0.self (sz := s.heap.size)
  generalize hAe : va_A (wC cJ b1 b0 bw bq bf w en pl cu li ld fb) s.heap.size = A at hD ⊢
  have hA : ∀ q : Nat, s.heap.size ≤ q → A q := fun q h => by rw [← hAe]; exact Or.inr h
  have hS : va_S A s.heap s.heap [] := va_S.rf
  have hP : va_P (dC, dI) vwCl (wC cJ b1 b0 bw bq bf w en pl cu li ld fb) s.heap := hP
  have hl := lv_entry ([.ref b1]) (n := 6) (Nat.le_of_ble_eq_true rfl)
  rw [lg_entry_eq]
  generalize (lg_sl ([.ref b1]) ++ List.replicate (6 - (lg_sl ([.ref b1])).length) Slot.unset).toArray = ls at hl ⊢
  have hl : lv_has ls 6 [(0, .ref b1)] := hl
  clear hD0 hAe
  unfold j_X1_readFibonacci at hj
  refine lv_lconst (v := (0 : Int64)) hx hb dX1_readFibonacci_0 (by decide) ?_
  refine lv_lstore_n (lv' := [(1, .long (0 : Int64)), (0, .ref b1)]) hx hb dX1_readFibonacci_1 rfl hl (by decide) rfl (fun ls hl => ?_)
  refine lv_iconst (v := (0 : Int32)) hx hb dX1_readFibonacci_2 (by decide) ?_
  refine lv_istore_n (lv' := [(3, .int (0 : Int32)), (1, .long (0 : Int64)), (0, .ref b1)]) hx hb dX1_readFibonacci_3 rfl hl (by decide) rfl (fun ls hl => ?_)
  refine lv_iconst (v := (0 : Int32)) hx hb dX1_readFibonacci_4 (by decide) ?_
  refine lv_istore (lv' := [(4, .int (0 : Int32)), (3, .int (0 : Int32)), (1, .long (0 : Int64)), (0, .ref b1)]) hx hb dX1_readFibonacci_5 hl (by decide) rfl (fun ls hl => ?_)
  exact s_X1_readFibonacci_7 C0 hK hA hN b1 b0 bw bq bf w en pl li ld fb jF (0 : Int64) (0 : Int32) (0 : Int32) cu _ hj _ _ _ (hP) (hD) hS (lv_sub hl [3, 2, 1, 0] rfl)

set_option maxRecDepth 100000 in
theorem inn_X1_readGolomb_X1 : ∀ w ∈ u_ws RX1 TX1 4, w ∈ wsX1_readGolomb := by decide +kernel
def j_X1_readGolomb (w : Nat → Int64) (en : Int32) (cu : Int32) (a1 : Int32) : Option (Int64 × Int32) :=
  (j_X0_readOnesAndZero w en cu).bind fun (v1, v2) => ((j_X1_golombWidth a1).bind fun v3 => ((j_X1_golombShortRests a1 v3).bind fun v4 => (if v3 = (0 : Int32) then (some (v1.toInt64 + (1 : Int64), v2)) else ((j_X0_readBits w en v2 (0 : Int64) (v3 - (1 : Int32))).bind fun (v6, v7) => (if v6 < v4 then (some (((v1.toInt64 * a1.toInt64) + v6) + (1 : Int64), v7)) else ((j_X0_readBit w en v7).bind fun (v9, v10) => (some (((v1.toInt64 * a1.toInt64) + ((((2 : Int64) * v6) + v9.toInt64) - v4)) + (1 : Int64), v10))))))))
set_option maxHeartbeats 4000000 in
set_option maxRecDepth 100000 in
theorem c_X1_readGolomb (l : Launch) (dC : Nat → ClassId) (dI : Nat → Nat → Nat) (cI cJ : ClassId) (b1 : Nat) (b0 : Nat) (bw : Nat) (bq : Nat) (bf : Nat) (sz : Nat) (w : Nat → Int64) (en : Int32) (pl : Int32) (cu : Int32) (li : Nat → Int64) (ld : Int32) (fb : Nat → Int64) (a1 : Int32) (r : Int64 × Int32) (hj : j_X1_readGolomb w en cu a1 = some r) : Met l yX1_readGolomb wsX1_readGolomb ({ frames := 4, cells := 0, slots := 0, locals := 84 } : Room) (va_Pc [.ref b1, .int a1] (fun U => jPr dC dI cI cJ (wC cJ b1 b0 bw bq bf w en pl cu li ld fb) sz U ∧ jNs U)) (va_Ql (fun (v : Int64) (_ : Unit) => v = r.1) (fun (_ : Unit) t => jPo dC dI cI cJ (wC cJ b1 b0 bw bq bf w en pl r.2 li ld fb) (va_A (wC cJ b1 b0 bw bq bf w en pl cu li ld fb) sz) t) (va_A (wC cJ b1 b0 bw bq bf w en pl cu li ld fb) sz)) 0 0 (va_A (wC cJ b1 b0 bw bq bf w en pl cu li ld fb) sz) := by
  refine Met.ofW (cc := cX1_readGolomb) (maxL := 9) (ret := (some .long)) (by decide) rfl ?_
  intro p e s m args below meth c s₁ B hml hv
  obtain ⟨rfl, ⟨hsz, hP, hK, hD0⟩, hN⟩ := hv
  have hx := B.exec
  have hb := B.bytes
  have hr := B.returns
  have hts := atoms_spec (ws := wsX1_readGolomb) B.pre
  have hown : s.vm.findClass RX1 = some m.cls := findClass_of_methodNamed B.named
  have hlocks := B.notSynchronized
  have C0 := jCx.of hx hb hr hml hown hts hlocks
  subst hsz
  have hD := hD0.self (sz := s.heap.size)
  generalize hAe : va_A (wC cJ b1 b0 bw bq bf w en pl cu li ld fb) s.heap.size = A at hD ⊢
  have hA : ∀ q : Nat, s.heap.size ≤ q → A q := fun q h => by rw [← hAe]; exact Or.inr h
  have hS : va_S A s.heap s.heap [] := va_S.rf
  have hP : va_P (dC, dI) vwCl (wC cJ b1 b0 bw bq bf w en pl cu li ld fb) s.heap := hP
  have hl := lv_entry ([.ref b1, .int a1]) (n := 9) (Nat.le_of_ble_eq_true rfl)
  rw [lg_entry_eq]
  generalize (lg_sl ([.ref b1, .int a1]) ++ List.replicate (9 - (lg_sl ([.ref b1, .int a1])).length) Slot.unset).toArray = ls at hl ⊢
  have hl : lv_has ls 9 [(0, .ref b1), (1, .int a1)] := hl
  clear hD0 hAe
  unfold j_X1_readGolomb at hj
  refine lv_aload_n hx hb dX1_readGolomb_0 rfl (lv_at hl 0 rfl) ?_
  refine va_get (D := (dC, dI)) (ci := 1) (v := .ref b0) (C := RX1) (T := TX1) (N := 4) hx hb hts inn_X1_readGolomb_X1 hown hK hP 0 rfl rfl 0 (by decide) (hts (.fieldLink RX1 12 "SelfEndingCodes" "row" "LSelfEndingCodes$BitRow;") (by decide +kernel)) (fun _ h9 => h9) rfl dX1_readGolomb_1 ?_
  obtain ⟨⟨v1, v2⟩, hc, hj⟩ := ja_bd hj
  try dsimp only at hj
  have hPc := hP.sub (ws' := (wB cJ b0 bw w en pl cu)) [1, 2] rfl
  have hDc := hD.sub (ws' := (wB cJ b0 bw w en pl cu)) [1, 2] (by decide) rfl
  have hFc := va_free (wc := (wB cJ b0 bw w en pl cu)) hD hS hA [1, 2] rfl
  refine va_calli (va_runV (As := []) (rest := []) ⟨hx, hb, hml, hown, hts⟩ (c_X0_readOnesAndZero l dC dI cI cJ b0 bw s.heap.size w en pl cu _ hc) (cwV 0 hts gX1_readGolomb_X0_readOnesAndZero rfl rfl rfl (by decide +kernel) ⟨Nat.le_of_ble_eq_true rfl, Nat.le_of_ble_eq_true rfl⟩) ⟨fun a U g mk q => ⟨q.1, jPr.blind q.2⟩, va_recv hK hPc (ci := 0) (q0 := 0) rfl rfl, fun U hU hW => ⟨rfl, jPr.mk hU hW hPc hK hDc⟩⟩ rfl rfl hl.1 rfl (lv_room (Nat.le_of_ble_eq_true rfl)) dX1_readGolomb_4 ⟨Nat.le_of_ble_eq_true rfl, Nat.le_of_ble_eq_true rfl⟩) hS (fun q _ h => hFc q h) hFc (fun rr u t H1 locs ht hvm hw9 hB hz1 hk1 hS => ?_)
  have hw8 : v1 = rr := hw9.symm
  subst hw8
  obtain ⟨hP1, hK1, hD1⟩ := hB
  rw [ht] at hP1
  obtain ⟨hP, hD⟩ := va_join (wr := ([(b1, .inr (1, [.ref b0, .ref bq, .ref bf, .int ld])), (bq, .inl (cJ, 100, .inr (.inl li))), (bf, .inl (cJ, 89, .inr (.inl fb)))] : va_W)) (w1 := (wB cJ b0 bw w en pl v2)) hP hD [1, 2] [0, 3, 4] rfl rfl (by decide) (by decide) hk1 hFc hP1 hD1
  replace hP := hP.sub (ws' := (wC cJ b1 b0 bw bq bf w en pl v2 li ld fb)) [0, 3, 4, 1, 2] rfl
  replace hD := hD.sub (ws' := (wC cJ b1 b0 bw bq bf w en pl v2 li ld fb)) [0, 3, 4, 1, 2] (by decide) rfl
  clear hk1 hP1 hK1 hD1 hvm hz1 hPc hDc hFc
  generalize H1 = H at hP hS ⊢
  have hP : va_P (dC, dI) vwCl (wC cJ b1 b0 bw bq bf w en pl v2 li ld fb) H := hP
  have hD : va_D A (wC cJ b1 b0 bw bq bf w en pl v2 li ld fb) := hD
  refine lv_i2l hx hb dX1_readGolomb_7 rfl ?_
  refine lv_lstore_n (lv' := [(2, .long v1.toInt64), (0, .ref b1), (1, .int a1)]) hx hb dX1_readGolomb_8 rfl hl (by decide) rfl (fun ls hl => ?_)
  refine lv_iload_n hx hb dX1_readGolomb_9 rfl (lv_at hl 2 rfl) ?_
  obtain ⟨v3, hc, hj⟩ := ja_bd hj
  try dsimp only at hj
  have hPc := hP.sub (ws' := ([] : va_W)) [] rfl
  have hDc := hD.sub (ws' := ([] : va_W)) [] (by decide) rfl
  have hFc := va_free (wc := ([] : va_W)) hD hS hA [] rfl
  refine va_calli (va_runS (As := [.int a1]) (rest := []) ⟨hx, hb, hml, hown, hts⟩ (c_X1_golombWidth l dC dI cI cJ H.size a1 _ hc) (va_cwS 1 hts gX1_readGolomb_X1_golombWidth rfl rfl rfl (by decide +kernel) ⟨Nat.le_of_ble_eq_true rfl, Nat.le_of_ble_eq_true rfl⟩) ⟨fun a U g mk q => ⟨q.1, jPr.blind q.2⟩, fun U hU hW => ⟨rfl, jPr.mk hU hW hPc hK hDc⟩⟩ rfl rfl hl.1 rfl (lv_room (Nat.le_of_ble_eq_true rfl)) dX1_readGolomb_10 ⟨Nat.le_of_ble_eq_true rfl, Nat.le_of_ble_eq_true rfl⟩) hS (fun q _ h => hFc q h) hFc (fun rr u t H1 locs ht hvm hw9 hB hz1 hk1 hS => ?_)
  have hw8 : v3 = rr := hw9.symm
  subst hw8
  obtain ⟨hP1, hK1, hD1⟩ := hB
  rw [ht] at hP1
  obtain ⟨hP, hD⟩ := va_join (wr := ([(b1, .inr (1, [.ref b0, .ref bq, .ref bf, .int ld])), (b0, .inr (0, [.ref bw, .int en, .int pl, .int v2])), (bw, .inl (cJ, 64, .inr (.inl w))), (bq, .inl (cJ, 100, .inr (.inl li))), (bf, .inl (cJ, 89, .inr (.inl fb)))] : va_W)) (w1 := ([] : va_W)) hP hD [] [0, 1, 2, 3, 4] rfl rfl (by decide) (by decide) hk1 hFc hP1 hD1
  clear hk1 hP1 hK1 hD1 hvm hz1 hPc hDc hFc
  generalize H1 = H at hP hS ⊢
  have hP : va_P (dC, dI) vwCl (wC cJ b1 b0 bw bq bf w en pl v2 li ld fb) H := hP
  have hD : va_D A (wC cJ b1 b0 bw bq bf w en pl v2 li ld fb) := hD
  refine lv_istore (lv' := [(4, .int v3), (2, .long v1.toInt64), (0, .ref b1), (1, .int a1)]) hx hb dX1_readGolomb_13 hl (by decide) rfl (fun ls hl => ?_)
  refine lv_iload_n hx hb dX1_readGolomb_15 rfl (lv_at hl 3 rfl) ?_
  refine lv_iload hx hb dX1_readGolomb_16 (lv_at hl 0 rfl) ?_
  obtain ⟨v4, hc, hj⟩ := ja_bd hj
  try dsimp only at hj
  have hPc := hP.sub (ws' := ([] : va_W)) [] rfl
  have hDc := hD.sub (ws' := ([] : va_W)) [] (by decide) rfl
  have hFc := va_free (wc := ([] : va_W)) hD hS hA [] rfl
  refine va_calll (va_runS (As := [.int a1, .int v3]) (rest := []) ⟨hx, hb, hml, hown, hts⟩ (c_X1_golombShortRests l dC dI cI cJ H.size a1 v3 _ hc) (va_cwS 2 hts gX1_readGolomb_X1_golombShortRests rfl rfl rfl (by decide +kernel) ⟨Nat.le_of_ble_eq_true rfl, Nat.le_of_ble_eq_true rfl⟩) ⟨fun a U g mk q => ⟨q.1, jPr.blind q.2⟩, fun U hU hW => ⟨rfl, jPr.mk hU hW hPc hK hDc⟩⟩ rfl rfl hl.1 rfl (lv_room (Nat.le_of_ble_eq_true rfl)) dX1_readGolomb_18 ⟨Nat.le_of_ble_eq_true rfl, Nat.le_of_ble_eq_true rfl⟩) hS (fun q _ h => hFc q h) hFc (fun rr u t H1 locs ht hvm hw9 hB hz1 hk1 hS => ?_)
  have hw8 : v4 = rr := hw9.symm
  subst hw8
  obtain ⟨hP1, hK1, hD1⟩ := hB
  rw [ht] at hP1
  obtain ⟨hP, hD⟩ := va_join (wr := ([(b1, .inr (1, [.ref b0, .ref bq, .ref bf, .int ld])), (b0, .inr (0, [.ref bw, .int en, .int pl, .int v2])), (bw, .inl (cJ, 64, .inr (.inl w))), (bq, .inl (cJ, 100, .inr (.inl li))), (bf, .inl (cJ, 89, .inr (.inl fb)))] : va_W)) (w1 := ([] : va_W)) hP hD [] [0, 1, 2, 3, 4] rfl rfl (by decide) (by decide) hk1 hFc hP1 hD1
  clear hk1 hP1 hK1 hD1 hvm hz1 hPc hDc hFc
  generalize H1 = H at hP hS ⊢
  have hP : va_P (dC, dI) vwCl (wC cJ b1 b0 bw bq bf w en pl v2 li ld fb) H := hP
  have hD : va_D A (wC cJ b1 b0 bw bq bf w en pl v2 li ld fb) := hD
  refine lv_lstore (lv' := [(5, .long v4), (4, .int v3), (2, .long v1.toInt64), (0, .ref b1), (1, .int a1)]) hx hb dX1_readGolomb_21 hl (by decide) rfl (fun ls hl => ?_)
  refine lv_iload hx hb dX1_readGolomb_23 (lv_at hl 1 rfl) ?_
  refine lv_if_ne (tgt := 32) hx hb dX1_readGolomb_25 (by decide) (fun c5 => ?_) (fun c5 => ?_)
  · replace hj := ja_neg c5 hj
    refine lv_aload_n hx hb dX1_readGolomb_32 rfl (lv_at hl 3 rfl) ?_
    refine va_get (D := (dC, dI)) (ci := 1) (v := .ref b0) (C := RX1) (T := TX1) (N := 4) hx hb hts inn_X1_readGolomb_X1 hown hK hP 0 rfl rfl 0 (by decide) (hts (.fieldLink RX1 12 "SelfEndingCodes" "row" "LSelfEndingCodes$BitRow;") (by decide +kernel)) (fun _ h9 => h9) rfl dX1_readGolomb_33 ?_
    refine lv_lconst (v := (0 : Int64)) hx hb dX1_readGolomb_36 (by decide) ?_
    refine lv_iload hx hb dX1_readGolomb_37 (lv_at hl 1 rfl) ?_
    refine lv_iconst (v := (1 : Int32)) hx hb dX1_readGolomb_39 (by decide) ?_
    refine lv_isub hx hb dX1_readGolomb_40 ?_
    obtain ⟨⟨v6, v7⟩, hc, hj⟩ := ja_bd hj
    try dsimp only at hj
    have hPc := hP.sub (ws' := (wB cJ b0 bw w en pl v2)) [1, 2] rfl
    have hDc := hD.sub (ws' := (wB cJ b0 bw w en pl v2)) [1, 2] (by decide) rfl
    have hFc := va_free (wc := (wB cJ b0 bw w en pl v2)) hD hS hA [1, 2] rfl
    refine va_calll (va_runV (As := [.long (0 : Int64), .int (v3 - (1 : Int32))]) (rest := []) ⟨hx, hb, hml, hown, hts⟩ (c_X0_readBits l dC dI cI cJ b0 bw H.size w en pl v2 (0 : Int64) (v3 - (1 : Int32)) _ hc) (cwV 2 hts gX1_readGolomb_X0_readBits rfl rfl rfl (by decide +kernel) ⟨Nat.le_of_ble_eq_true rfl, Nat.le_of_ble_eq_true rfl⟩) ⟨fun a U g mk q => ⟨q.1, jPr.blind q.2⟩, va_recv hK hPc (ci := 0) (q0 := 0) rfl rfl, fun U hU hW => ⟨rfl, jPr.mk hU hW hPc hK hDc⟩⟩ rfl rfl hl.1 rfl (lv_room (Nat.le_of_ble_eq_true rfl)) dX1_readGolomb_41 ⟨Nat.le_of_ble_eq_true rfl, Nat.le_of_ble_eq_true rfl⟩) hS (fun q _ h => hFc q h) hFc (fun rr u t H1 locs ht hvm hw9 hB hz1 hk1 hS => ?_)
    have hw8 : v6 = rr := hw9.symm
    subst hw8
    obtain ⟨hP1, hK1, hD1⟩ := hB
    rw [ht] at hP1
    obtain ⟨hP, hD⟩ := va_join (wr := ([(b1, .inr (1, [.ref b0, .ref bq, .ref bf, .int ld])), (bq, .inl (cJ, 100, .inr (.inl li))), (bf, .inl (cJ, 89, .inr (.inl fb)))] : va_W)) (w1 := (wB cJ b0 bw w en pl v7)) hP hD [1, 2] [0, 3, 4] rfl rfl (by decide) (by decide) hk1 hFc hP1 hD1
    replace hP := hP.sub (ws' := (wC cJ b1 b0 bw bq bf w en pl v7 li ld fb)) [0, 3, 4, 1, 2] rfl
    replace hD := hD.sub (ws' := (wC cJ b1 b0 bw bq bf w en pl v7 li ld fb)) [0, 3, 4, 1, 2] (by decide) rfl
    clear hk1 hP1 hK1 hD1 hvm hz1 hPc hDc hFc
    generalize H1 = H at hP hS ⊢
    have hP : va_P (dC, dI) vwCl (wC cJ b1 b0 bw bq bf w en pl v7 li ld fb) H := hP
    have hD : va_D A (wC cJ b1 b0 bw bq bf w en pl v7 li ld fb) := hD
    refine lv_lstore (lv' := [(7, .long v6), (5, .long v4), (4, .int v3), (2, .long v1.toInt64), (0, .ref b1), (1, .int a1)]) hx hb dX1_readGolomb_44 hl (by decide) rfl (fun ls hl => ?_)
    refine lv_lload hx hb dX1_readGolomb_46 (lv_at hl 0 rfl) ?_
    refine lv_lload hx hb dX1_readGolomb_48 (lv_at hl 1 rfl) ?_
    refine W.lcmp hx hb dX1_readGolomb_50 ?_
    refine lv_if_lt (tgt := 74) hx hb dX1_readGolomb_51 (by decide) (fun c8 => ?_) (fun c8 => ?_)
    · replace hj := ja_pos ((lg_cmp_lt v6 v4).mp c8) hj
      refine lv_lload_n hx hb dX1_readGolomb_74 rfl (lv_at hl 3 rfl) ?_
      refine lv_iload_n hx hb dX1_readGolomb_75 rfl (lv_at hl 5 rfl) ?_
      refine lv_i2l hx hb dX1_readGolomb_76 rfl ?_
      refine lv_lmul hx hb dX1_readGolomb_77 ?_
      refine lv_lload hx hb dX1_readGolomb_78 (lv_at hl 0 rfl) ?_
      refine lv_ladd hx hb dX1_readGolomb_80 ?_
      refine lv_lconst (v := (1 : Int64)) hx hb dX1_readGolomb_81 (by decide) ?_
      refine lv_ladd hx hb dX1_readGolomb_82 ?_
      have hr9 : (((v1.toInt64 * a1.toInt64) + v6) + (1 : Int64), v7) = r := Option.some.inj hj
      subst hr9
      exact W.lret (v := ((v1.toInt64 * a1.toInt64) + v6) + (1 : Int64)) hx hb hr (fun t ht hW => ⟨⟨((v1.toInt64 * a1.toInt64) + v6) + (1 : Int64), (), rfl, rfl, by rw [ht]; exact hP, va_K.moved hW.alike hK, hD⟩, hS.F ht⟩) hS.2.2 dX1_readGolomb_83
    · replace hj := ja_neg (fun h9 => c8 ((lg_cmp_lt v6 v4).mpr h9)) hj
      refine lv_ldc2 (v := (2 : Int64)) hx hb hown (hts (.constantLong RX1 27 (2)) (by decide +kernel)) dX1_readGolomb_54 ?_
      refine lv_lload hx hb dX1_readGolomb_57 (lv_at hl 0 rfl) ?_
      refine lv_lmul hx hb dX1_readGolomb_59 ?_
      refine lv_aload_n hx hb dX1_readGolomb_60 rfl (lv_at hl 4 rfl) ?_
      refine va_get (D := (dC, dI)) (ci := 1) (v := .ref b0) (C := RX1) (T := TX1) (N := 4) hx hb hts inn_X1_readGolomb_X1 hown hK hP 0 rfl rfl 0 (by decide) (hts (.fieldLink RX1 12 "SelfEndingCodes" "row" "LSelfEndingCodes$BitRow;") (by decide +kernel)) (fun _ h9 => h9) rfl dX1_readGolomb_61 ?_
      obtain ⟨⟨v9, v10⟩, hc, hj⟩ := ja_bd hj
      try dsimp only at hj
      have hPc := hP.sub (ws' := (wB cJ b0 bw w en pl v7)) [1, 2] rfl
      have hDc := hD.sub (ws' := (wB cJ b0 bw w en pl v7)) [1, 2] (by decide) rfl
      have hFc := va_free (wc := (wB cJ b0 bw w en pl v7)) hD hS hA [1, 2] rfl
      refine va_calli (va_runV (As := []) (rest := [.long ((2 : Int64) * v6)]) ⟨hx, hb, hml, hown, hts⟩ (c_X0_readBit l dC dI cI cJ b0 bw H.size w en pl v7 _ hc) (cwV 0 hts gX1_readGolomb_X0_readBit rfl rfl rfl (by decide +kernel) ⟨Nat.le_of_ble_eq_true rfl, Nat.le_of_ble_eq_true rfl⟩) ⟨fun a U g mk q => ⟨q.1, jPr.blind q.2⟩, va_recv hK hPc (ci := 0) (q0 := 0) rfl rfl, fun U hU hW => ⟨rfl, jPr.mk hU hW hPc hK hDc⟩⟩ rfl rfl hl.1 rfl (lv_room (Nat.le_of_ble_eq_true rfl)) dX1_readGolomb_64 ⟨Nat.le_of_ble_eq_true rfl, Nat.le_of_ble_eq_true rfl⟩) hS (fun q _ h => hFc q h) hFc (fun rr u t H1 locs ht hvm hw9 hB hz1 hk1 hS => ?_)
      have hw8 : v9 = rr := hw9.symm
      subst hw8
      obtain ⟨hP1, hK1, hD1⟩ := hB
      rw [ht] at hP1
      obtain ⟨hP, hD⟩ := va_join (wr := ([(b1, .inr (1, [.ref b0, .ref bq, .ref bf, .int ld])), (bq, .inl (cJ, 100, .inr (.inl li))), (bf, .inl (cJ, 89, .inr (.inl fb)))] : va_W)) (w1 := (wB cJ b0 bw w en pl v10)) hP hD [1, 2] [0, 3, 4] rfl rfl (by decide) (by decide) hk1 hFc hP1 hD1
      replace hP := hP.sub (ws' := (wC cJ b1 b0 bw bq bf w en pl v10 li ld fb)) [0, 3, 4, 1, 2] rfl
      replace hD := hD.sub (ws' := (wC cJ b1 b0 bw bq bf w en pl v10 li ld fb)) [0, 3, 4, 1, 2] (by decide) rfl
      clear hk1 hP1 hK1 hD1 hvm hz1 hPc hDc hFc
      generalize H1 = H at hP hS ⊢
      have hP : va_P (dC, dI) vwCl (wC cJ b1 b0 bw bq bf w en pl v10 li ld fb) H := hP
      have hD : va_D A (wC cJ b1 b0 bw bq bf w en pl v10 li ld fb) := hD
      refine lv_i2l hx hb dX1_readGolomb_67 rfl ?_
      refine lv_ladd hx hb dX1_readGolomb_68 ?_
      refine lv_lload hx hb dX1_readGolomb_69 (lv_at hl 1 rfl) ?_
      refine lv_lsub hx hb dX1_readGolomb_71 ?_
      refine lv_lstore (lv' := [(7, .long ((((2 : Int64) * v6) + v9.toInt64) - v4)), (5, .long v4), (4, .int v3), (2, .long v1.toInt64), (0, .ref b1), (1, .int a1)]) hx hb dX1_readGolomb_72 hl (by decide) rfl (fun ls hl => ?_)
      refine lv_lload_n hx hb dX1_readGolomb_74 rfl (lv_at hl 3 rfl) ?_
      refine lv_iload_n hx hb dX1_readGolomb_75 rfl (lv_at hl 5 rfl) ?_
      refine lv_i2l hx hb dX1_readGolomb_76 rfl ?_
      refine lv_lmul hx hb dX1_readGolomb_77 ?_
      refine lv_lload hx hb dX1_readGolomb_78 (lv_at hl 0 rfl) ?_
      refine lv_ladd hx hb dX1_readGolomb_80 ?_
      refine lv_lconst (v := (1 : Int64)) hx hb dX1_readGolomb_81 (by decide) ?_
      refine lv_ladd hx hb dX1_readGolomb_82 ?_
      have hr9 : (((v1.toInt64 * a1.toInt64) + ((((2 : Int64) * v6) + v9.toInt64) - v4)) + (1 : Int64), v10) = r := Option.some.inj hj
      subst hr9
      exact W.lret (v := ((v1.toInt64 * a1.toInt64) + ((((2 : Int64) * v6) + v9.toInt64) - v4)) + (1 : Int64)) hx hb hr (fun t ht hW => ⟨⟨((v1.toInt64 * a1.toInt64) + ((((2 : Int64) * v6) + v9.toInt64) - v4)) + (1 : Int64), (), rfl, rfl, by rw [ht]; exact hP, va_K.moved hW.alike hK, hD⟩, hS.F ht⟩) hS.2.2 dX1_readGolomb_83
  · replace hj := ja_pos c5 hj
    refine lv_lload_n hx hb dX1_readGolomb_28 rfl (lv_at hl 2 rfl) ?_
    refine lv_lconst (v := (1 : Int64)) hx hb dX1_readGolomb_29 (by decide) ?_
    refine lv_ladd hx hb dX1_readGolomb_30 ?_
    have hr9 : (v1.toInt64 + (1 : Int64), v2) = r := Option.some.inj hj
    subst hr9
    exact W.lret (v := v1.toInt64 + (1 : Int64)) hx hb hr (fun t ht hW => ⟨⟨v1.toInt64 + (1 : Int64), (), rfl, rfl, by rw [ht]; exact hP, va_K.moved hW.alike hK, hD⟩, hS.F ht⟩) hS.2.2 dX1_readGolomb_31

set_option maxRecDepth 100000 in
theorem inn_X1_readExpGolomb_X1 : ∀ w ∈ u_ws RX1 TX1 4, w ∈ wsX1_readExpGolomb := by decide +kernel
def j_X1_readExpGolomb (w : Nat → Int64) (en : Int32) (cu : Int32) (a1 : Int32) : Option (Int64 × Int32) :=
  (j_X1_readGamma w en cu).bind fun (v1, v2) => (if v1 = (-1 : Int64) then (some ((-1 : Int64), v2)) else (if ((v1 - (1 : Int64)) >>> (((62 : Int32) - a1).toInt64 &&& 63)) = (0 : Int64) then ((j_X0_readBits w en v2 (0 : Int64) a1).bind fun (v5, v6) => (some ((((v1 - (1 : Int64)) <<< (a1.toInt64 &&& 63)) + v5) + (1 : Int64), v6))) else (some ((-1 : Int64), v2))))
set_option maxHeartbeats 4000000 in
set_option maxRecDepth 100000 in
theorem c_X1_readExpGolomb (l : Launch) (dC : Nat → ClassId) (dI : Nat → Nat → Nat) (cI cJ : ClassId) (b1 : Nat) (b0 : Nat) (bw : Nat) (bq : Nat) (bf : Nat) (sz : Nat) (w : Nat → Int64) (en : Int32) (pl : Int32) (cu : Int32) (li : Nat → Int64) (ld : Int32) (fb : Nat → Int64) (a1 : Int32) (r : Int64 × Int32) (hj : j_X1_readExpGolomb w en cu a1 = some r) : Met l yX1_readExpGolomb wsX1_readExpGolomb ({ frames := 3, cells := 0, slots := 0, locals := 69 } : Room) (va_Pc [.ref b1, .int a1] (fun U => jPr dC dI cI cJ (wC cJ b1 b0 bw bq bf w en pl cu li ld fb) sz U ∧ jNs U)) (va_Ql (fun (v : Int64) (_ : Unit) => v = r.1) (fun (_ : Unit) t => jPo dC dI cI cJ (wC cJ b1 b0 bw bq bf w en pl r.2 li ld fb) (va_A (wC cJ b1 b0 bw bq bf w en pl cu li ld fb) sz) t) (va_A (wC cJ b1 b0 bw bq bf w en pl cu li ld fb) sz)) 0 0 (va_A (wC cJ b1 b0 bw bq bf w en pl cu li ld fb) sz) := by
  refine Met.ofW (cc := cX1_readExpGolomb) (maxL := 4) (ret := (some .long)) (by decide) rfl ?_
  intro p e s m args below meth c s₁ B hml hv
  obtain ⟨rfl, ⟨hsz, hP, hK, hD0⟩, hN⟩ := hv
  have hx := B.exec
  have hb := B.bytes
  have hr := B.returns
  have hts := atoms_spec (ws := wsX1_readExpGolomb) B.pre
  have hown : s.vm.findClass RX1 = some m.cls := findClass_of_methodNamed B.named
  have hlocks := B.notSynchronized
  have C0 := jCx.of hx hb hr hml hown hts hlocks
  subst hsz
  have hD := hD0.self (sz := s.heap.size)
  generalize hAe : va_A (wC cJ b1 b0 bw bq bf w en pl cu li ld fb) s.heap.size = A at hD ⊢
  have hA : ∀ q : Nat, s.heap.size ≤ q → A q := fun q h => by rw [← hAe]; exact Or.inr h
  have hS : va_S A s.heap s.heap [] := va_S.rf
  have hP : va_P (dC, dI) vwCl (wC cJ b1 b0 bw bq bf w en pl cu li ld fb) s.heap := hP
  have hl := lv_entry ([.ref b1, .int a1]) (n := 4) (Nat.le_of_ble_eq_true rfl)
  rw [lg_entry_eq]
  generalize (lg_sl ([.ref b1, .int a1]) ++ List.replicate (4 - (lg_sl ([.ref b1, .int a1])).length) Slot.unset).toArray = ls at hl ⊢
  have hl : lv_has ls 4 [(0, .ref b1), (1, .int a1)] := hl
  clear hD0 hAe
  unfold j_X1_readExpGolomb at hj
  refine lv_aload_n hx hb dX1_readExpGolomb_0 rfl (lv_at hl 0 rfl) ?_
  obtain ⟨⟨v1, v2⟩, hc, hj⟩ := ja_bd hj
  try dsimp only at hj
  have hPc := hP.sub (ws' := (wC cJ b1 b0 bw bq bf w en pl cu li ld fb)) [0, 1, 2, 3, 4] rfl
  have hDc := hD.sub (ws' := (wC cJ b1 b0 bw bq bf w en pl cu li ld fb)) [0, 1, 2, 3, 4] (by decide) rfl
  have hFc := va_free (wc := (wC cJ b1 b0 bw bq bf w en pl cu li ld fb)) hD hS hA [0, 1, 2, 3, 4] rfl
  refine va_calll (va_runV (As := []) (rest := []) ⟨hx, hb, hml, hown, hts⟩ (c_X1_readGamma l dC dI cI cJ b1 b0 bw bq bf s.heap.size w en pl cu li ld fb _ hc) (cwV 0 hts gX1_readExpGolomb_X1_readGamma rfl rfl rfl (by decide +kernel) ⟨Nat.le_of_ble_eq_true rfl, Nat.le_of_ble_eq_true rfl⟩) ⟨fun a U g mk q => ⟨q.1, jPr.blind q.2.1, jNs.blind q.2.2⟩, va_recv hK hPc (ci := 1) (q0 := 0) rfl rfl, fun U hU hW => ⟨rfl, jPr.mk hU hW hPc hK hDc, jNs.warm hW hN⟩⟩ rfl rfl hl.1 rfl (lv_room (Nat.le_of_ble_eq_true rfl)) dX1_readExpGolomb_1 ⟨Nat.le_of_ble_eq_true rfl, Nat.le_of_ble_eq_true rfl⟩) hS (fun q _ h => hFc q h) hFc (fun rr u t H1 locs ht hvm hw9 hB hz1 hk1 hS => ?_)
  have hw8 : v1 = rr := hw9.symm
  subst hw8
  obtain ⟨hP1, hK1, hD1⟩ := hB
  rw [ht] at hP1
  obtain ⟨hP, hD⟩ := va_join (wr := ([] : va_W)) (w1 := (wC cJ b1 b0 bw bq bf w en pl v2 li ld fb)) hP hD [0, 1, 2, 3, 4] [] rfl rfl (by decide) (by decide) hk1 hFc hP1 hD1
  clear hk1 hP1 hK1 hD1 hvm hz1 hPc hDc hFc
  generalize H1 = H at hP hS ⊢
  have hP : va_P (dC, dI) vwCl (wC cJ b1 b0 bw bq bf w en pl v2 li ld fb) H := hP
  have hD : va_D A (wC cJ b1 b0 bw bq bf w en pl v2 li ld fb) := hD
  refine lv_lstore_n (lv' := [(2, .long v1), (0, .ref b1), (1, .int a1)]) hx hb dX1_readExpGolomb_4 rfl hl (by decide) rfl (fun ls hl => ?_)
  refine lv_lload_n hx hb dX1_readExpGolomb_5 rfl (lv_at hl 0 rfl) ?_
  refine lv_ldc2 (v := (-1 : Int64)) hx hb hown (hts (.constantLong RX1 97 (-1)) (by decide +kernel)) dX1_readExpGolomb_6 ?_
  refine W.lcmp hx hb dX1_readExpGolomb_9 ?_
  refine lv_if_eq (tgt := 26) hx hb dX1_readExpGolomb_10 (by decide) (fun c3 => ?_) (fun c3 => ?_)
  · replace hj := ja_pos ((lg_cmp_eq v1 (-1 : Int64)).mp c3) hj
    refine lv_ldc2 (v := (-1 : Int64)) hx hb hown (hts (.constantLong RX1 97 (-1)) (by decide +kernel)) dX1_readExpGolomb_26 ?_
    have hr9 : ((-1 : Int64), v2) = r := Option.some.inj hj
    subst hr9
    exact W.lret (v := (-1 : Int64)) hx hb hr (fun t ht hW => ⟨⟨(-1 : Int64), (), rfl, rfl, by rw [ht]; exact hP, va_K.moved hW.alike hK, hD⟩, hS.F ht⟩) hS.2.2 dX1_readExpGolomb_29
  · replace hj := ja_neg (fun h9 => c3 ((lg_cmp_eq v1 (-1 : Int64)).mpr h9)) hj
    refine lv_lload_n hx hb dX1_readExpGolomb_13 rfl (lv_at hl 0 rfl) ?_
    refine lv_lconst (v := (1 : Int64)) hx hb dX1_readExpGolomb_14 (by decide) ?_
    refine lv_lsub hx hb dX1_readExpGolomb_15 ?_
    refine lv_bipush (v := (62 : Int32)) hx hb dX1_readExpGolomb_16 (by decide) ?_
    refine lv_iload_n hx hb dX1_readExpGolomb_18 rfl (lv_at hl 2 rfl) ?_
    refine lv_isub hx hb dX1_readExpGolomb_19 ?_
    refine lv_lshr hx hb dX1_readExpGolomb_20 rfl ?_
    refine lv_lconst (v := (0 : Int64)) hx hb dX1_readExpGolomb_21 (by decide) ?_
    refine W.lcmp hx hb dX1_readExpGolomb_22 ?_
    refine lv_if_eq (tgt := 30) hx hb dX1_readExpGolomb_23 (by decide) (fun c4 => ?_) (fun c4 => ?_)
    · replace hj := ja_pos ((lg_cmp_eq ((v1 - (1 : Int64)) >>> (((62 : Int32) - a1).toInt64 &&& 63)) (0 : Int64)).mp c4) hj
      refine lv_lload_n hx hb dX1_readExpGolomb_30 rfl (lv_at hl 0 rfl) ?_
      refine lv_lconst (v := (1 : Int64)) hx hb dX1_readExpGolomb_31 (by decide) ?_
      refine lv_lsub hx hb dX1_readExpGolomb_32 ?_
      refine lv_iload_n hx hb dX1_readExpGolomb_33 rfl (lv_at hl 2 rfl) ?_
      refine lv_lshl hx hb dX1_readExpGolomb_34 rfl ?_
      refine lv_aload_n hx hb dX1_readExpGolomb_35 rfl (lv_at hl 1 rfl) ?_
      refine va_get (D := (dC, dI)) (ci := 1) (v := .ref b0) (C := RX1) (T := TX1) (N := 4) hx hb hts inn_X1_readExpGolomb_X1 hown hK hP 0 rfl rfl 0 (by decide) (hts (.fieldLink RX1 12 "SelfEndingCodes" "row" "LSelfEndingCodes$BitRow;") (by decide +kernel)) (fun _ h9 => h9) rfl dX1_readExpGolomb_36 ?_
      refine lv_lconst (v := (0 : Int64)) hx hb dX1_readExpGolomb_39 (by decide) ?_
      refine lv_iload_n hx hb dX1_readExpGolomb_40 rfl (lv_at hl 2 rfl) ?_
      obtain ⟨⟨v5, v6⟩, hc, hj⟩ := ja_bd hj
      try dsimp only at hj
      have hPc := hP.sub (ws' := (wB cJ b0 bw w en pl v2)) [1, 2] rfl
      have hDc := hD.sub (ws' := (wB cJ b0 bw w en pl v2)) [1, 2] (by decide) rfl
      have hFc := va_free (wc := (wB cJ b0 bw w en pl v2)) hD hS hA [1, 2] rfl
      refine va_calll (va_runV (As := [.long (0 : Int64), .int a1]) (rest := [.long ((v1 - (1 : Int64)) <<< (a1.toInt64 &&& 63))]) ⟨hx, hb, hml, hown, hts⟩ (c_X0_readBits l dC dI cI cJ b0 bw H.size w en pl v2 (0 : Int64) a1 _ hc) (cwV 2 hts gX1_readExpGolomb_X0_readBits rfl rfl rfl (by decide +kernel) ⟨Nat.le_of_ble_eq_true rfl, Nat.le_of_ble_eq_true rfl⟩) ⟨fun a U g mk q => ⟨q.1, jPr.blind q.2⟩, va_recv hK hPc (ci := 0) (q0 := 0) rfl rfl, fun U hU hW => ⟨rfl, jPr.mk hU hW hPc hK hDc⟩⟩ rfl rfl hl.1 rfl (lv_room (Nat.le_of_ble_eq_true rfl)) dX1_readExpGolomb_41 ⟨Nat.le_of_ble_eq_true rfl, Nat.le_of_ble_eq_true rfl⟩) hS (fun q _ h => hFc q h) hFc (fun rr u t H1 locs ht hvm hw9 hB hz1 hk1 hS => ?_)
      have hw8 : v5 = rr := hw9.symm
      subst hw8
      obtain ⟨hP1, hK1, hD1⟩ := hB
      rw [ht] at hP1
      obtain ⟨hP, hD⟩ := va_join (wr := ([(b1, .inr (1, [.ref b0, .ref bq, .ref bf, .int ld])), (bq, .inl (cJ, 100, .inr (.inl li))), (bf, .inl (cJ, 89, .inr (.inl fb)))] : va_W)) (w1 := (wB cJ b0 bw w en pl v6)) hP hD [1, 2] [0, 3, 4] rfl rfl (by decide) (by decide) hk1 hFc hP1 hD1
      replace hP := hP.sub (ws' := (wC cJ b1 b0 bw bq bf w en pl v6 li ld fb)) [0, 3, 4, 1, 2] rfl
      replace hD := hD.sub (ws' := (wC cJ b1 b0 bw bq bf w en pl v6 li ld fb)) [0, 3, 4, 1, 2] (by decide) rfl
      clear hk1 hP1 hK1 hD1 hvm hz1 hPc hDc hFc
      generalize H1 = H at hP hS ⊢
      have hP : va_P (dC, dI) vwCl (wC cJ b1 b0 bw bq bf w en pl v6 li ld fb) H := hP
      have hD : va_D A (wC cJ b1 b0 bw bq bf w en pl v6 li ld fb) := hD
      refine lv_ladd hx hb dX1_readExpGolomb_44 ?_
      refine lv_lconst (v := (1 : Int64)) hx hb dX1_readExpGolomb_45 (by decide) ?_
      refine lv_ladd hx hb dX1_readExpGolomb_46 ?_
      have hr9 : ((((v1 - (1 : Int64)) <<< (a1.toInt64 &&& 63)) + v5) + (1 : Int64), v6) = r := Option.some.inj hj
      subst hr9
      exact W.lret (v := (((v1 - (1 : Int64)) <<< (a1.toInt64 &&& 63)) + v5) + (1 : Int64)) hx hb hr (fun t ht hW => ⟨⟨(((v1 - (1 : Int64)) <<< (a1.toInt64 &&& 63)) + v5) + (1 : Int64), (), rfl, rfl, by rw [ht]; exact hP, va_K.moved hW.alike hK, hD⟩, hS.F ht⟩) hS.2.2 dX1_readExpGolomb_47
    · replace hj := ja_neg (fun h9 => c4 ((lg_cmp_eq ((v1 - (1 : Int64)) >>> (((62 : Int32) - a1).toInt64 &&& 63)) (0 : Int64)).mpr h9)) hj
      refine lv_ldc2 (v := (-1 : Int64)) hx hb hown (hts (.constantLong RX1 97 (-1)) (by decide +kernel)) dX1_readExpGolomb_26 ?_
      have hr9 : ((-1 : Int64), v2) = r := Option.some.inj hj
      subst hr9
      exact W.lret (v := (-1 : Int64)) hx hb hr (fun t ht hW => ⟨⟨(-1 : Int64), (), rfl, rfl, by rw [ht]; exact hP, va_K.moved hW.alike hK, hD⟩, hS.F ht⟩) hS.2.2 dX1_readExpGolomb_29

set_option maxRecDepth 100000 in
theorem inn_X1_readGroups_X1 : ∀ w ∈ u_ws RX1 TX1 4, w ∈ wsX1_readGroups := by decide +kernel
def jL_X1_readGroups_5 (w : Nat → Int64) (en : Int32) (x1 : Int32) : Nat → Int64 → Int32 → Int32 → Option (Int64 × Int32)
  | 0, _, _, _ => none
  | n + 1, x2, x4, cu => if (62 : Int32) ≤ x4 then (some ((-1 : Int64), cu)) else ((j_X0_readBit w en cu).bind fun (v502, v503) => ((j_X0_readBits w en v503 (0 : Int64) x1).bind fun (v504, v505) => (if (62 : Int32) ≤ (x4 * x1) then (some ((-1 : Int64), v505)) else (if (v504 >>> (((62 : Int32) - (x4 * x1)).toInt64 &&& 63)) = (0 : Int64) then (if v502 = (0 : Int32) then (if v504 = (0 : Int64) then (if x4 ≤ (0 : Int32) then (some ((x2 ||| (v504 <<< ((x4 * x1).toInt64 &&& 63))) + (1 : Int64), v505)) else (some ((-1 : Int64), v505))) else (some ((x2 ||| (v504 <<< ((x4 * x1).toInt64 &&& 63))) + (1 : Int64), v505))) else (jL_X1_readGroups_5 w en x1 n (x2 ||| (v504 <<< ((x4 * x1).toInt64 &&& 63))) (x4 + (1 : Int32)) v505)) else (some ((-1 : Int64), v505))))))
set_option maxHeartbeats 4000000 in
set_option maxRecDepth 100000 in
theorem s_X1_readGroups_5 {p : Program} {l : Launch} {e : Env} {s : State} {m : MethodId} {args : Array Value} {below : List Frame} {meth : Method} {c : Code} {dC : Nat → ClassId} {dI : Nat → Nat → Nat} {cI cJ : ClassId} {A : Nat → Prop} (C0 : jCx p s m args meth c RX1 cX1_readGroups 9 (some .long) wsX1_readGroups) (hK : va_K (dC, dI) vwCl (jTy cI cJ) s) (hA : ∀ q : Nat, s.heap.size ≤ q → A q) (hN : jNs s) (b1 : Nat) (b0 : Nat) (bw : Nat) (bq : Nat) (bf : Nat) (w : Nat → Int64) (en : Int32) (pl : Int32) (li : Nat → Int64) (ld : Int32) (fb : Nat → Int64) (x1 : Int32) :
    ∀ (n : Nat) (x2 : Int64) (x4 : Int32) (cu : Int32) (r : Int64 × Int32), jL_X1_readGroups_5 w en x1 n x2 x4 cu = some r → ∀ (H : Heap) (locs : List Loc) (ls : Array Slot), va_P (dC, dI) vwCl (wC cJ b1 b0 bw bq bf w en pl cu li ld fb) H → va_D A (wC cJ b1 b0 bw bq bf w en pl cu li ld fb) → va_S A s.heap H locs → lv_has ls 9 [(0, .ref b1), (1, .int x1), (2, .long x2), (4, .int x4)] → W p l e ({ frames := 2, cells := 0, slots := 0, locals := 48 } : Room) s m args below meth c H locs 0 0 (MQ below (va_Ql (fun (v : Int64) (_ : Unit) => v = r.1) (fun (_ : Unit) t => jPo dC dI cI cJ (wC cJ b1 b0 bw bq bf w en pl r.2 li ld fb) A t) A) args s 0 0 A) (F0 m 5 ls []) := by
  obtain ⟨hx, hb, hr, hml, hown, hts, hlocks⟩ := id C0
  intro n
  induction n with
  | zero =>
    intro x2 x4 cu r hj
    exact nomatch (show (none : Option (Int64 × Int32)) = some r from hj)
  | succ n ih =>
    intro x2 x4 cu r hj H locs ls hP hD hS hl
    replace hj : (if (62 : Int32) ≤ x4 then (some ((-1 : Int64), cu)) else ((j_X0_readBit w en cu).bind fun (v502, v503) => ((j_X0_readBits w en v503 (0 : Int64) x1).bind fun (v504, v505) => (if (62 : Int32) ≤ (x4 * x1) then (some ((-1 : Int64), v505)) else (if (v504 >>> (((62 : Int32) - (x4 * x1)).toInt64 &&& 63)) = (0 : Int64) then (if v502 = (0 : Int32) then (if v504 = (0 : Int64) then (if x4 ≤ (0 : Int32) then (some ((x2 ||| (v504 <<< ((x4 * x1).toInt64 &&& 63))) + (1 : Int64), v505)) else (some ((-1 : Int64), v505))) else (some ((x2 ||| (v504 <<< ((x4 * x1).toInt64 &&& 63))) + (1 : Int64), v505))) else (jL_X1_readGroups_5 w en x1 n (x2 ||| (v504 <<< ((x4 * x1).toInt64 &&& 63))) (x4 + (1 : Int32)) v505)) else (some ((-1 : Int64), v505))))))) = some r := hj
    refine lv_iload hx hb dX1_readGroups_5 (lv_at hl 3 rfl) ?_
    refine lv_bipush (v := (62 : Int32)) hx hb dX1_readGroups_7 (by decide) ?_
    refine lv_icmp_ge (tgt := 103) hx hb dX1_readGroups_9 (by decide) (fun c501 => ?_) (fun c501 => ?_)
    · replace hj := ja_pos c501 hj
      refine lv_ldc2 (v := (-1 : Int64)) hx hb hown (hts (.constantLong RX1 97 (-1)) (by decide +kernel)) dX1_readGroups_103 ?_
      have hr9 : ((-1 : Int64), cu) = r := Option.some.inj hj
      subst hr9
      exact W.lret (v := (-1 : Int64)) hx hb hr (fun t ht hW => ⟨⟨(-1 : Int64), (), rfl, rfl, by rw [ht]; exact hP, va_K.moved hW.alike hK, hD⟩, hS.F ht⟩) hS.2.2 dX1_readGroups_106
    · replace hj := ja_neg c501 hj
      refine lv_iload hx hb dX1_readGroups_12 (lv_at hl 3 rfl) ?_
      refine lv_iload_n hx hb dX1_readGroups_14 rfl (lv_at hl 1 rfl) ?_
      refine lv_imul hx hb dX1_readGroups_15 ?_
      refine lv_istore (lv' := [(5, .int (x4 * x1)), (0, .ref b1), (1, .int x1), (2, .long x2), (4, .int x4)]) hx hb dX1_readGroups_16 hl (by decide) rfl (fun ls hl => ?_)
      refine lv_aload_n hx hb dX1_readGroups_18 rfl (lv_at hl 1 rfl) ?_
      refine va_get (D := (dC, dI)) (ci := 1) (v := .ref b0) (C := RX1) (T := TX1) (N := 4) hx hb hts inn_X1_readGroups_X1 hown hK hP 0 rfl rfl 0 (by decide) (hts (.fieldLink RX1 12 "SelfEndingCodes" "row" "LSelfEndingCodes$BitRow;") (by decide +kernel)) (fun _ h9 => h9) rfl dX1_readGroups_19 ?_
      obtain ⟨⟨v502, v503⟩, hc, hj⟩ := ja_bd hj
      try dsimp only at hj
      have hPc := hP.sub (ws' := (wB cJ b0 bw w en pl cu)) [1, 2] rfl
      have hDc := hD.sub (ws' := (wB cJ b0 bw w en pl cu)) [1, 2] (by decide) rfl
      have hFc := va_free (wc := (wB cJ b0 bw w en pl cu)) hD hS hA [1, 2] rfl
      refine va_calli (va_runV (As := []) (rest := []) ⟨hx, hb, hml, hown, hts⟩ (c_X0_readBit l dC dI cI cJ b0 bw H.size w en pl cu _ hc) (cwV 0 hts gX1_readGroups_X0_readBit rfl rfl rfl (by decide +kernel) ⟨Nat.le_of_ble_eq_true rfl, Nat.le_of_ble_eq_true rfl⟩) ⟨fun a U g mk q => ⟨q.1, jPr.blind q.2⟩, va_recv hK hPc (ci := 0) (q0 := 0) rfl rfl, fun U hU hW => ⟨rfl, jPr.mk hU hW hPc hK hDc⟩⟩ rfl rfl hl.1 rfl (lv_room (Nat.le_of_ble_eq_true rfl)) dX1_readGroups_22 ⟨Nat.le_of_ble_eq_true rfl, Nat.le_of_ble_eq_true rfl⟩) hS (fun q _ h => hFc q h) hFc (fun rr u t H1 locs ht hvm hw9 hB hz1 hk1 hS => ?_)
      have hw8 : v502 = rr := hw9.symm
      subst hw8
      obtain ⟨hP1, hK1, hD1⟩ := hB
      rw [ht] at hP1
      obtain ⟨hP, hD⟩ := va_join (wr := ([(b1, .inr (1, [.ref b0, .ref bq, .ref bf, .int ld])), (bq, .inl (cJ, 100, .inr (.inl li))), (bf, .inl (cJ, 89, .inr (.inl fb)))] : va_W)) (w1 := (wB cJ b0 bw w en pl v503)) hP hD [1, 2] [0, 3, 4] rfl rfl (by decide) (by decide) hk1 hFc hP1 hD1
      replace hP := hP.sub (ws' := (wC cJ b1 b0 bw bq bf w en pl v503 li ld fb)) [0, 3, 4, 1, 2] rfl
      replace hD := hD.sub (ws' := (wC cJ b1 b0 bw bq bf w en pl v503 li ld fb)) [0, 3, 4, 1, 2] (by decide) rfl
      clear hk1 hP1 hK1 hD1 hvm hz1 hPc hDc hFc
      generalize H1 = H at hP hS ⊢
      have hP : va_P (dC, dI) vwCl (wC cJ b1 b0 bw bq bf w en pl v503 li ld fb) H := hP
      have hD : va_D A (wC cJ b1 b0 bw bq bf w en pl v503 li ld fb) := hD
      refine lv_istore (lv' := [(6, .int v502), (5, .int (x4 * x1)), (0, .ref b1), (1, .int x1), (2, .long x2), (4, .int x4)]) hx hb dX1_readGroups_25 hl (by decide) rfl (fun ls hl => ?_)
      refine lv_aload_n hx hb dX1_readGroups_27 rfl (lv_at hl 2 rfl) ?_
      refine va_get (D := (dC, dI)) (ci := 1) (v := .ref b0) (C := RX1) (T := TX1) (N := 4) hx hb hts inn_X1_readGroups_X1 hown hK hP 0 rfl rfl 0 (by decide) (hts (.fieldLink RX1 12 "SelfEndingCodes" "row" "LSelfEndingCodes$BitRow;") (by decide +kernel)) (fun _ h9 => h9) rfl dX1_readGroups_28 ?_
      refine lv_lconst (v := (0 : Int64)) hx hb dX1_readGroups_31 (by decide) ?_
      refine lv_iload_n hx hb dX1_readGroups_32 rfl (lv_at hl 3 rfl) ?_
      obtain ⟨⟨v504, v505⟩, hc, hj⟩ := ja_bd hj
      try dsimp only at hj
      have hPc := hP.sub (ws' := (wB cJ b0 bw w en pl v503)) [1, 2] rfl
      have hDc := hD.sub (ws' := (wB cJ b0 bw w en pl v503)) [1, 2] (by decide) rfl
      have hFc := va_free (wc := (wB cJ b0 bw w en pl v503)) hD hS hA [1, 2] rfl
      refine va_calll (va_runV (As := [.long (0 : Int64), .int x1]) (rest := []) ⟨hx, hb, hml, hown, hts⟩ (c_X0_readBits l dC dI cI cJ b0 bw H.size w en pl v503 (0 : Int64) x1 _ hc) (cwV 2 hts gX1_readGroups_X0_readBits rfl rfl rfl (by decide +kernel) ⟨Nat.le_of_ble_eq_true rfl, Nat.le_of_ble_eq_true rfl⟩) ⟨fun a U g mk q => ⟨q.1, jPr.blind q.2⟩, va_recv hK hPc (ci := 0) (q0 := 0) rfl rfl, fun U hU hW => ⟨rfl, jPr.mk hU hW hPc hK hDc⟩⟩ rfl rfl hl.1 rfl (lv_room (Nat.le_of_ble_eq_true rfl)) dX1_readGroups_33 ⟨Nat.le_of_ble_eq_true rfl, Nat.le_of_ble_eq_true rfl⟩) hS (fun q _ h => hFc q h) hFc (fun rr u t H1 locs ht hvm hw9 hB hz1 hk1 hS => ?_)
      have hw8 : v504 = rr := hw9.symm
      subst hw8
      obtain ⟨hP1, hK1, hD1⟩ := hB
      rw [ht] at hP1
      obtain ⟨hP, hD⟩ := va_join (wr := ([(b1, .inr (1, [.ref b0, .ref bq, .ref bf, .int ld])), (bq, .inl (cJ, 100, .inr (.inl li))), (bf, .inl (cJ, 89, .inr (.inl fb)))] : va_W)) (w1 := (wB cJ b0 bw w en pl v505)) hP hD [1, 2] [0, 3, 4] rfl rfl (by decide) (by decide) hk1 hFc hP1 hD1
      replace hP := hP.sub (ws' := (wC cJ b1 b0 bw bq bf w en pl v505 li ld fb)) [0, 3, 4, 1, 2] rfl
      replace hD := hD.sub (ws' := (wC cJ b1 b0 bw bq bf w en pl v505 li ld fb)) [0, 3, 4, 1, 2] (by decide) rfl
      clear hk1 hP1 hK1 hD1 hvm hz1 hPc hDc hFc
      generalize H1 = H at hP hS ⊢
      have hP : va_P (dC, dI) vwCl (wC cJ b1 b0 bw bq bf w en pl v505 li ld fb) H := hP
      have hD : va_D A (wC cJ b1 b0 bw bq bf w en pl v505 li ld fb) := hD
      refine lv_lstore (lv' := [(7, .long v504), (6, .int v502), (5, .int (x4 * x1)), (0, .ref b1), (1, .int x1), (2, .long x2), (4, .int x4)]) hx hb dX1_readGroups_36 hl (by decide) rfl (fun ls hl => ?_)
      refine lv_iload hx hb dX1_readGroups_38 (lv_at hl 2 rfl) ?_
      refine lv_bipush (v := (62 : Int32)) hx hb dX1_readGroups_40 (by decide) ?_
      refine lv_icmp_ge (tgt := 58) hx hb dX1_readGroups_42 (by decide) (fun c506 => ?_) (fun c506 => ?_)
      · replace hj := ja_pos c506 hj
        refine lv_ldc2 (v := (-1 : Int64)) hx hb hown (hts (.constantLong RX1 97 (-1)) (by decide +kernel)) dX1_readGroups_58 ?_
        have hr9 : ((-1 : Int64), v505) = r := Option.some.inj hj
        subst hr9
        exact W.lret (v := (-1 : Int64)) hx hb hr (fun t ht hW => ⟨⟨(-1 : Int64), (), rfl, rfl, by rw [ht]; exact hP, va_K.moved hW.alike hK, hD⟩, hS.F ht⟩) hS.2.2 dX1_readGroups_61
      · replace hj := ja_neg c506 hj
        refine lv_lload hx hb dX1_readGroups_45 (lv_at hl 0 rfl) ?_
        refine lv_bipush (v := (62 : Int32)) hx hb dX1_readGroups_47 (by decide) ?_
        refine lv_iload hx hb dX1_readGroups_49 (lv_at hl 2 rfl) ?_
        refine lv_isub hx hb dX1_readGroups_51 ?_
        refine lv_lshr hx hb dX1_readGroups_52 rfl ?_
        refine lv_lconst (v := (0 : Int64)) hx hb dX1_readGroups_53 (by decide) ?_
        refine W.lcmp hx hb dX1_readGroups_54 ?_
        refine lv_if_eq (tgt := 62) hx hb dX1_readGroups_55 (by decide) (fun c507 => ?_) (fun c507 => ?_)
        · replace hj := ja_pos ((lg_cmp_eq (v504 >>> (((62 : Int32) - (x4 * x1)).toInt64 &&& 63)) (0 : Int64)).mp c507) hj
          refine lv_lload_n hx hb dX1_readGroups_62 rfl (lv_at hl 5 rfl) ?_
          refine lv_lload hx hb dX1_readGroups_63 (lv_at hl 0 rfl) ?_
          refine lv_iload hx hb dX1_readGroups_65 (lv_at hl 2 rfl) ?_
          refine lv_lshl hx hb dX1_readGroups_67 rfl ?_
          refine lv_lor hx hb dX1_readGroups_68 ?_
          refine lv_lstore_n (lv' := [(2, .long (x2 ||| (v504 <<< ((x4 * x1).toInt64 &&& 63)))), (7, .long v504), (6, .int v502), (5, .int (x4 * x1)), (0, .ref b1), (1, .int x1), (4, .int x4)]) hx hb dX1_readGroups_69 rfl hl (by decide) rfl (fun ls hl => ?_)
          refine lv_iload hx hb dX1_readGroups_70 (lv_at hl 2 rfl) ?_
          refine lv_if_ne (tgt := 97) hx hb dX1_readGroups_72 (by decide) (fun c508 => ?_) (fun c508 => ?_)
          · replace hj := ja_neg c508 hj
            refine lv_iinc (v := x4 + (1 : Int32)) (lv' := [(4, .int (x4 + (1 : Int32))), (2, .long (x2 ||| (v504 <<< ((x4 * x1).toInt64 &&& 63)))), (7, .long v504), (6, .int v502), (5, .int (x4 * x1)), (0, .ref b1), (1, .int x1)]) hx hb dX1_readGroups_97 hl (k := 6) rfl (congrArg (fun z => x4 + z) (by decide)) (by decide) rfl (fun ls hl => ?_)
            refine lv_goto (tgt := 5) hx hb dX1_readGroups_100 (by decide) ?_
            exact ih (x2 ||| (v504 <<< ((x4 * x1).toInt64 &&& 63))) (x4 + (1 : Int32)) v505 _ hj _ _ _ (hP) (hD) hS (lv_sub hl [5, 6, 1, 0] rfl)
          · replace hj := ja_pos c508 hj
            refine lv_lload hx hb dX1_readGroups_75 (lv_at hl 1 rfl) ?_
            refine lv_lconst (v := (0 : Int64)) hx hb dX1_readGroups_77 (by decide) ?_
            refine W.lcmp hx hb dX1_readGroups_78 ?_
            refine lv_if_ne (tgt := 93) hx hb dX1_readGroups_79 (by decide) (fun c509 => ?_) (fun c509 => ?_)
            · replace hj := ja_neg (fun h9 => c509 ((lg_cmp_eq v504 (0 : Int64)).mpr h9)) hj
              refine lv_lload_n hx hb dX1_readGroups_93 rfl (lv_at hl 0 rfl) ?_
              refine lv_lconst (v := (1 : Int64)) hx hb dX1_readGroups_94 (by decide) ?_
              refine lv_ladd hx hb dX1_readGroups_95 ?_
              have hr9 : ((x2 ||| (v504 <<< ((x4 * x1).toInt64 &&& 63))) + (1 : Int64), v505) = r := Option.some.inj hj
              subst hr9
              exact W.lret (v := (x2 ||| (v504 <<< ((x4 * x1).toInt64 &&& 63))) + (1 : Int64)) hx hb hr (fun t ht hW => ⟨⟨(x2 ||| (v504 <<< ((x4 * x1).toInt64 &&& 63))) + (1 : Int64), (), rfl, rfl, by rw [ht]; exact hP, va_K.moved hW.alike hK, hD⟩, hS.F ht⟩) hS.2.2 dX1_readGroups_96
            · replace hj := ja_pos ((lg_cmp_eq v504 (0 : Int64)).mp c509) hj
              refine lv_iload hx hb dX1_readGroups_82 (lv_at hl 6 rfl) ?_
              refine lv_if_le (tgt := 93) hx hb dX1_readGroups_84 (by decide) (fun c510 => ?_) (fun c510 => ?_)
              · replace hj := ja_pos c510 hj
                refine lv_lload_n hx hb dX1_readGroups_93 rfl (lv_at hl 0 rfl) ?_
                refine lv_lconst (v := (1 : Int64)) hx hb dX1_readGroups_94 (by decide) ?_
                refine lv_ladd hx hb dX1_readGroups_95 ?_
                have hr9 : ((x2 ||| (v504 <<< ((x4 * x1).toInt64 &&& 63))) + (1 : Int64), v505) = r := Option.some.inj hj
                subst hr9
                exact W.lret (v := (x2 ||| (v504 <<< ((x4 * x1).toInt64 &&& 63))) + (1 : Int64)) hx hb hr (fun t ht hW => ⟨⟨(x2 ||| (v504 <<< ((x4 * x1).toInt64 &&& 63))) + (1 : Int64), (), rfl, rfl, by rw [ht]; exact hP, va_K.moved hW.alike hK, hD⟩, hS.F ht⟩) hS.2.2 dX1_readGroups_96
              · replace hj := ja_neg c510 hj
                refine lv_ldc2 (v := (-1 : Int64)) hx hb hown (hts (.constantLong RX1 97 (-1)) (by decide +kernel)) dX1_readGroups_87 ?_
                refine lv_goto (tgt := 96) hx hb dX1_readGroups_90 (by decide) ?_
                have hr9 : ((-1 : Int64), v505) = r := Option.some.inj hj
                subst hr9
                exact W.lret (v := (-1 : Int64)) hx hb hr (fun t ht hW => ⟨⟨(-1 : Int64), (), rfl, rfl, by rw [ht]; exact hP, va_K.moved hW.alike hK, hD⟩, hS.F ht⟩) hS.2.2 dX1_readGroups_96
        · replace hj := ja_neg (fun h9 => c507 ((lg_cmp_eq (v504 >>> (((62 : Int32) - (x4 * x1)).toInt64 &&& 63)) (0 : Int64)).mpr h9)) hj
          refine lv_ldc2 (v := (-1 : Int64)) hx hb hown (hts (.constantLong RX1 97 (-1)) (by decide +kernel)) dX1_readGroups_58 ?_
          have hr9 : ((-1 : Int64), v505) = r := Option.some.inj hj
          subst hr9
          exact W.lret (v := (-1 : Int64)) hx hb hr (fun t ht hW => ⟨⟨(-1 : Int64), (), rfl, rfl, by rw [ht]; exact hP, va_K.moved hW.alike hK, hD⟩, hS.F ht⟩) hS.2.2 dX1_readGroups_61
def j_X1_readGroups (w : Nat → Int64) (en : Int32) (cu : Int32) (a1 : Int32) : Option (Int64 × Int32) :=
  jL_X1_readGroups_5 w en a1 jF (0 : Int64) (0 : Int32) cu
set_option maxHeartbeats 4000000 in
set_option maxRecDepth 100000 in
theorem c_X1_readGroups (l : Launch) (dC : Nat → ClassId) (dI : Nat → Nat → Nat) (cI cJ : ClassId) (b1 : Nat) (b0 : Nat) (bw : Nat) (bq : Nat) (bf : Nat) (sz : Nat) (w : Nat → Int64) (en : Int32) (pl : Int32) (cu : Int32) (li : Nat → Int64) (ld : Int32) (fb : Nat → Int64) (a1 : Int32) (r : Int64 × Int32) (hj : j_X1_readGroups w en cu a1 = some r) : Met l yX1_readGroups wsX1_readGroups ({ frames := 2, cells := 0, slots := 0, locals := 48 } : Room) (va_Pc [.ref b1, .int a1] (fun U => jPr dC dI cI cJ (wC cJ b1 b0 bw bq bf w en pl cu li ld fb) sz U ∧ jNs U)) (va_Ql (fun (v : Int64) (_ : Unit) => v = r.1) (fun (_ : Unit) t => jPo dC dI cI cJ (wC cJ b1 b0 bw bq bf w en pl r.2 li ld fb) (va_A (wC cJ b1 b0 bw bq bf w en pl cu li ld fb) sz) t) (va_A (wC cJ b1 b0 bw bq bf w en pl cu li ld fb) sz)) 0 0 (va_A (wC cJ b1 b0 bw bq bf w en pl cu li ld fb) sz) := by
  refine Met.ofW (cc := cX1_readGroups) (maxL := 9) (ret := (some .long)) (by decide) rfl ?_
  intro p e s m args below meth c s₁ B hml hv
  obtain ⟨rfl, ⟨hsz, hP, hK, hD0⟩, hN⟩ := hv
  have hx := B.exec
  have hb := B.bytes
  have hr := B.returns
  have hts := atoms_spec (ws := wsX1_readGroups) B.pre
  have hown : s.vm.findClass RX1 = some m.cls := findClass_of_methodNamed B.named
  have hlocks := B.notSynchronized
  have C0 := jCx.of hx hb hr hml hown hts hlocks
  subst hsz
  have hD := hD0.self (sz := s.heap.size)
  generalize hAe : va_A (wC cJ b1 b0 bw bq bf w en pl cu li ld fb) s.heap.size = A at hD ⊢
  have hA : ∀ q : Nat, s.heap.size ≤ q → A q := fun q h => by rw [← hAe]; exact Or.inr h
  have hS : va_S A s.heap s.heap [] := va_S.rf
  have hP : va_P (dC, dI) vwCl (wC cJ b1 b0 bw bq bf w en pl cu li ld fb) s.heap := hP
  have hl := lv_entry ([.ref b1, .int a1]) (n := 9) (Nat.le_of_ble_eq_true rfl)
  rw [lg_entry_eq]
  generalize (lg_sl ([.ref b1, .int a1]) ++ List.replicate (9 - (lg_sl ([.ref b1, .int a1])).length) Slot.unset).toArray = ls at hl ⊢
  have hl : lv_has ls 9 [(0, .ref b1), (1, .int a1)] := hl
  clear hD0 hAe
  unfold j_X1_readGroups at hj
  refine lv_lconst (v := (0 : Int64)) hx hb dX1_readGroups_0 (by decide) ?_
  refine lv_lstore_n (lv' := [(2, .long (0 : Int64)), (0, .ref b1), (1, .int a1)]) hx hb dX1_readGroups_1 rfl hl (by decide) rfl (fun ls hl => ?_)
  refine lv_iconst (v := (0 : Int32)) hx hb dX1_readGroups_2 (by decide) ?_
  refine lv_istore (lv' := [(4, .int (0 : Int32)), (2, .long (0 : Int64)), (0, .ref b1), (1, .int a1)]) hx hb dX1_readGroups_3 hl (by decide) rfl (fun ls hl => ?_)
  exact s_X1_readGroups_5 C0 hK hA hN b1 b0 bw bq bf w en pl li ld fb a1 jF (0 : Int64) (0 : Int32) cu _ hj _ _ _ (hP) (hD) hS (lv_sub hl [2, 3, 1, 0] rfl)

set_option maxRecDepth 100000 in
theorem inn_X1_readCodeword_X1 : ∀ w ∈ u_ws RX1 TX1 4, w ∈ wsX1_readCodeword := by decide +kernel
def j_X1_readCodeword (w : Nat → Int64) (en : Int32) (cu : Int32) (fb : Nat → Int64) (a1 : Int32) (a2 : Int32) : Option (Int64 × Int32) :=
  if a1 = (0 : Int32) then ((j_X0_readOnesAndZero w en cu).bind fun (v3, v4) => (some (v3.toInt64 + (1 : Int64), v4))) else (if a1 = (1 : Int32) then ((j_X1_readGamma w en cu).bind fun (v5, v6) => (some (v5, v6))) else (if a1 = (2 : Int32) then ((j_X1_readDelta w en cu).bind fun (v7, v8) => (some (v7, v8))) else (if a1 = (3 : Int32) then ((j_X1_readOmega w en cu).bind fun (v9, v10) => (some (v9, v10))) else (if a1 = (4 : Int32) then ((j_X1_readFibonacci w en cu fb).bind fun (v11, v12) => (some (v11, v12))) else (if a1 = (5 : Int32) then ((j_X1_readGolomb w en cu a2).bind fun (v13, v14) => (some (v13, v14))) else (if a1 = (6 : Int32) then ((j_X1_readExpGolomb w en cu a2).bind fun (v15, v16) => (some (v15, v16))) else ((j_X1_readGroups w en cu a2).bind fun (v1, v2) => (some (v1, v2)))))))))
set_option maxHeartbeats 4000000 in
set_option maxRecDepth 100000 in
theorem c_X1_readCodeword (l : Launch) (dC : Nat → ClassId) (dI : Nat → Nat → Nat) (cI cJ : ClassId) (b1 : Nat) (b0 : Nat) (bw : Nat) (bq : Nat) (bf : Nat) (sz : Nat) (w : Nat → Int64) (en : Int32) (pl : Int32) (cu : Int32) (li : Nat → Int64) (ld : Int32) (fb : Nat → Int64) (a1 : Int32) (a2 : Int32) (r : Int64 × Int32) (hj : j_X1_readCodeword w en cu fb a1 a2 = some r) : Met l yX1_readCodeword wsX1_readCodeword ({ frames := 5, cells := 0, slots := 0, locals := 112 } : Room) (va_Pc [.ref b1, .int a1, .int a2] (fun U => jPr dC dI cI cJ (wC cJ b1 b0 bw bq bf w en pl cu li ld fb) sz U ∧ jNs U)) (va_Ql (fun (v : Int64) (_ : Unit) => v = r.1) (fun (_ : Unit) t => jPo dC dI cI cJ (wC cJ b1 b0 bw bq bf w en pl r.2 li ld fb) (va_A (wC cJ b1 b0 bw bq bf w en pl cu li ld fb) sz) t) (va_A (wC cJ b1 b0 bw bq bf w en pl cu li ld fb) sz)) 0 0 (va_A (wC cJ b1 b0 bw bq bf w en pl cu li ld fb) sz) := by
  refine Met.ofW (cc := cX1_readCodeword) (maxL := 3) (ret := (some .long)) (by decide) rfl ?_
  intro p e s m args below meth c s₁ B hml hv
  obtain ⟨rfl, ⟨hsz, hP, hK, hD0⟩, hN⟩ := hv
  have hx := B.exec
  have hb := B.bytes
  have hr := B.returns
  have hts := atoms_spec (ws := wsX1_readCodeword) B.pre
  have hown : s.vm.findClass RX1 = some m.cls := findClass_of_methodNamed B.named
  have hlocks := B.notSynchronized
  have C0 := jCx.of hx hb hr hml hown hts hlocks
  subst hsz
  have hD := hD0.self (sz := s.heap.size)
  generalize hAe : va_A (wC cJ b1 b0 bw bq bf w en pl cu li ld fb) s.heap.size = A at hD ⊢
  have hA : ∀ q : Nat, s.heap.size ≤ q → A q := fun q h => by rw [← hAe]; exact Or.inr h
  have hS : va_S A s.heap s.heap [] := va_S.rf
  have hP : va_P (dC, dI) vwCl (wC cJ b1 b0 bw bq bf w en pl cu li ld fb) s.heap := hP
  have hl := lv_entry ([.ref b1, .int a1, .int a2]) (n := 3) (Nat.le_of_ble_eq_true rfl)
  rw [lg_entry_eq]
  generalize (lg_sl ([.ref b1, .int a1, .int a2]) ++ List.replicate (3 - (lg_sl ([.ref b1, .int a1, .int a2])).length) Slot.unset).toArray = ls at hl ⊢
  have hl : lv_has ls 3 [(0, .ref b1), (1, .int a1), (2, .int a2)] := hl
  clear hD0 hAe
  unfold j_X1_readCodeword at hj
  refine lv_iload_n hx hb dX1_readCodeword_0 rfl (lv_at hl 1 rfl) ?_
  by_cases q0 : a1 = (0 : Int32)
  · replace hj := ja_pos q0 hj
    refine lv_tableIn (tgt := 44) hx hb dX1_readCodeword_1 (by rw [q0]; decide) (by rw [q0]; decide) (by rw [q0]; rfl) (by decide) ?_
    refine lv_aload_n hx hb dX1_readCodeword_44 rfl (lv_at hl 0 rfl) ?_
    refine va_get (D := (dC, dI)) (ci := 1) (v := .ref b0) (C := RX1) (T := TX1) (N := 4) hx hb hts inn_X1_readCodeword_X1 hown hK hP 0 rfl rfl 0 (by decide) (hts (.fieldLink RX1 12 "SelfEndingCodes" "row" "LSelfEndingCodes$BitRow;") (by decide +kernel)) (fun _ h9 => h9) rfl dX1_readCodeword_45 ?_
    obtain ⟨⟨v3, v4⟩, hc, hj⟩ := ja_bd hj
    try dsimp only at hj
    have hPc := hP.sub (ws' := (wB cJ b0 bw w en pl cu)) [1, 2] rfl
    have hDc := hD.sub (ws' := (wB cJ b0 bw w en pl cu)) [1, 2] (by decide) rfl
    have hFc := va_free (wc := (wB cJ b0 bw w en pl cu)) hD hS hA [1, 2] rfl
    refine va_calli (va_runV (As := []) (rest := []) ⟨hx, hb, hml, hown, hts⟩ (c_X0_readOnesAndZero l dC dI cI cJ b0 bw s.heap.size w en pl cu _ hc) (cwV 0 hts gX1_readCodeword_X0_readOnesAndZero rfl rfl rfl (by decide +kernel) ⟨Nat.le_of_ble_eq_true rfl, Nat.le_of_ble_eq_true rfl⟩) ⟨fun a U g mk q => ⟨q.1, jPr.blind q.2⟩, va_recv hK hPc (ci := 0) (q0 := 0) rfl rfl, fun U hU hW => ⟨rfl, jPr.mk hU hW hPc hK hDc⟩⟩ rfl rfl hl.1 rfl (lv_room (Nat.le_of_ble_eq_true rfl)) dX1_readCodeword_48 ⟨Nat.le_of_ble_eq_true rfl, Nat.le_of_ble_eq_true rfl⟩) hS (fun q _ h => hFc q h) hFc (fun rr u t H1 locs ht hvm hw9 hB hz1 hk1 hS => ?_)
    have hw8 : v3 = rr := hw9.symm
    subst hw8
    obtain ⟨hP1, hK1, hD1⟩ := hB
    rw [ht] at hP1
    obtain ⟨hP, hD⟩ := va_join (wr := ([(b1, .inr (1, [.ref b0, .ref bq, .ref bf, .int ld])), (bq, .inl (cJ, 100, .inr (.inl li))), (bf, .inl (cJ, 89, .inr (.inl fb)))] : va_W)) (w1 := (wB cJ b0 bw w en pl v4)) hP hD [1, 2] [0, 3, 4] rfl rfl (by decide) (by decide) hk1 hFc hP1 hD1
    replace hP := hP.sub (ws' := (wC cJ b1 b0 bw bq bf w en pl v4 li ld fb)) [0, 3, 4, 1, 2] rfl
    replace hD := hD.sub (ws' := (wC cJ b1 b0 bw bq bf w en pl v4 li ld fb)) [0, 3, 4, 1, 2] (by decide) rfl
    clear hk1 hP1 hK1 hD1 hvm hz1 hPc hDc hFc
    generalize H1 = H at hP hS ⊢
    have hP : va_P (dC, dI) vwCl (wC cJ b1 b0 bw bq bf w en pl v4 li ld fb) H := hP
    have hD : va_D A (wC cJ b1 b0 bw bq bf w en pl v4 li ld fb) := hD
    refine lv_i2l hx hb dX1_readCodeword_51 rfl ?_
    refine lv_lconst (v := (1 : Int64)) hx hb dX1_readCodeword_52 (by decide) ?_
    refine lv_ladd hx hb dX1_readCodeword_53 ?_
    have hr9 : (v3.toInt64 + (1 : Int64), v4) = r := Option.some.inj hj
    subst hr9
    exact W.lret (v := v3.toInt64 + (1 : Int64)) hx hb hr (fun t ht hW => ⟨⟨v3.toInt64 + (1 : Int64), (), rfl, rfl, by rw [ht]; exact hP, va_K.moved hW.alike hK, hD⟩, hS.F ht⟩) hS.2.2 dX1_readCodeword_54
  · replace hj := ja_neg q0 hj
    by_cases q1 : a1 = (1 : Int32)
    · replace hj := ja_pos q1 hj
      refine lv_tableIn (tgt := 55) hx hb dX1_readCodeword_1 (by rw [q1]; decide) (by rw [q1]; decide) (by rw [q1]; rfl) (by decide) ?_
      refine lv_aload_n hx hb dX1_readCodeword_55 rfl (lv_at hl 0 rfl) ?_
      obtain ⟨⟨v5, v6⟩, hc, hj⟩ := ja_bd hj
      try dsimp only at hj
      have hPc := hP.sub (ws' := (wC cJ b1 b0 bw bq bf w en pl cu li ld fb)) [0, 1, 2, 3, 4] rfl
      have hDc := hD.sub (ws' := (wC cJ b1 b0 bw bq bf w en pl cu li ld fb)) [0, 1, 2, 3, 4] (by decide) rfl
      have hFc := va_free (wc := (wC cJ b1 b0 bw bq bf w en pl cu li ld fb)) hD hS hA [0, 1, 2, 3, 4] rfl
      refine va_calll (va_runV (As := []) (rest := []) ⟨hx, hb, hml, hown, hts⟩ (c_X1_readGamma l dC dI cI cJ b1 b0 bw bq bf s.heap.size w en pl cu li ld fb _ hc) (cwV 0 hts gX1_readCodeword_X1_readGamma rfl rfl rfl (by decide +kernel) ⟨Nat.le_of_ble_eq_true rfl, Nat.le_of_ble_eq_true rfl⟩) ⟨fun a U g mk q => ⟨q.1, jPr.blind q.2.1, jNs.blind q.2.2⟩, va_recv hK hPc (ci := 1) (q0 := 0) rfl rfl, fun U hU hW => ⟨rfl, jPr.mk hU hW hPc hK hDc, jNs.warm hW hN⟩⟩ rfl rfl hl.1 rfl (lv_room (Nat.le_of_ble_eq_true rfl)) dX1_readCodeword_56 ⟨Nat.le_of_ble_eq_true rfl, Nat.le_of_ble_eq_true rfl⟩) hS (fun q _ h => hFc q h) hFc (fun rr u t H1 locs ht hvm hw9 hB hz1 hk1 hS => ?_)
      have hw8 : v5 = rr := hw9.symm
      subst hw8
      obtain ⟨hP1, hK1, hD1⟩ := hB
      rw [ht] at hP1
      obtain ⟨hP, hD⟩ := va_join (wr := ([] : va_W)) (w1 := (wC cJ b1 b0 bw bq bf w en pl v6 li ld fb)) hP hD [0, 1, 2, 3, 4] [] rfl rfl (by decide) (by decide) hk1 hFc hP1 hD1
      clear hk1 hP1 hK1 hD1 hvm hz1 hPc hDc hFc
      generalize H1 = H at hP hS ⊢
      have hP : va_P (dC, dI) vwCl (wC cJ b1 b0 bw bq bf w en pl v6 li ld fb) H := hP
      have hD : va_D A (wC cJ b1 b0 bw bq bf w en pl v6 li ld fb) := hD
      have hr9 : (v5, v6) = r := Option.some.inj hj
      subst hr9
      exact W.lret (v := v5) hx hb hr (fun t ht hW => ⟨⟨v5, (), rfl, rfl, by rw [ht]; exact hP, va_K.moved hW.alike hK, hD⟩, hS.F ht⟩) hS.2.2 dX1_readCodeword_59
    · replace hj := ja_neg q1 hj
      by_cases q2 : a1 = (2 : Int32)
      · replace hj := ja_pos q2 hj
        refine lv_tableIn (tgt := 60) hx hb dX1_readCodeword_1 (by rw [q2]; decide) (by rw [q2]; decide) (by rw [q2]; rfl) (by decide) ?_
        refine lv_aload_n hx hb dX1_readCodeword_60 rfl (lv_at hl 0 rfl) ?_
        obtain ⟨⟨v7, v8⟩, hc, hj⟩ := ja_bd hj
        try dsimp only at hj
        have hPc := hP.sub (ws' := (wC cJ b1 b0 bw bq bf w en pl cu li ld fb)) [0, 1, 2, 3, 4] rfl
        have hDc := hD.sub (ws' := (wC cJ b1 b0 bw bq bf w en pl cu li ld fb)) [0, 1, 2, 3, 4] (by decide) rfl
        have hFc := va_free (wc := (wC cJ b1 b0 bw bq bf w en pl cu li ld fb)) hD hS hA [0, 1, 2, 3, 4] rfl
        refine va_calll (va_runV (As := []) (rest := []) ⟨hx, hb, hml, hown, hts⟩ (c_X1_readDelta l dC dI cI cJ b1 b0 bw bq bf s.heap.size w en pl cu li ld fb _ hc) (cwV 0 hts gX1_readCodeword_X1_readDelta rfl rfl rfl (by decide +kernel) ⟨Nat.le_of_ble_eq_true rfl, Nat.le_of_ble_eq_true rfl⟩) ⟨fun a U g mk q => ⟨q.1, jPr.blind q.2.1, jNs.blind q.2.2⟩, va_recv hK hPc (ci := 1) (q0 := 0) rfl rfl, fun U hU hW => ⟨rfl, jPr.mk hU hW hPc hK hDc, jNs.warm hW hN⟩⟩ rfl rfl hl.1 rfl (lv_room (Nat.le_of_ble_eq_true rfl)) dX1_readCodeword_61 ⟨Nat.le_of_ble_eq_true rfl, Nat.le_of_ble_eq_true rfl⟩) hS (fun q _ h => hFc q h) hFc (fun rr u t H1 locs ht hvm hw9 hB hz1 hk1 hS => ?_)
        have hw8 : v7 = rr := hw9.symm
        subst hw8
        obtain ⟨hP1, hK1, hD1⟩ := hB
        rw [ht] at hP1
        obtain ⟨hP, hD⟩ := va_join (wr := ([] : va_W)) (w1 := (wC cJ b1 b0 bw bq bf w en pl v8 li ld fb)) hP hD [0, 1, 2, 3, 4] [] rfl rfl (by decide) (by decide) hk1 hFc hP1 hD1
        clear hk1 hP1 hK1 hD1 hvm hz1 hPc hDc hFc
        generalize H1 = H at hP hS ⊢
        have hP : va_P (dC, dI) vwCl (wC cJ b1 b0 bw bq bf w en pl v8 li ld fb) H := hP
        have hD : va_D A (wC cJ b1 b0 bw bq bf w en pl v8 li ld fb) := hD
        have hr9 : (v7, v8) = r := Option.some.inj hj
        subst hr9
        exact W.lret (v := v7) hx hb hr (fun t ht hW => ⟨⟨v7, (), rfl, rfl, by rw [ht]; exact hP, va_K.moved hW.alike hK, hD⟩, hS.F ht⟩) hS.2.2 dX1_readCodeword_64
      · replace hj := ja_neg q2 hj
        by_cases q3 : a1 = (3 : Int32)
        · replace hj := ja_pos q3 hj
          refine lv_tableIn (tgt := 65) hx hb dX1_readCodeword_1 (by rw [q3]; decide) (by rw [q3]; decide) (by rw [q3]; rfl) (by decide) ?_
          refine lv_aload_n hx hb dX1_readCodeword_65 rfl (lv_at hl 0 rfl) ?_
          obtain ⟨⟨v9, v10⟩, hc, hj⟩ := ja_bd hj
          try dsimp only at hj
          have hPc := hP.sub (ws' := (wC cJ b1 b0 bw bq bf w en pl cu li ld fb)) [0, 1, 2, 3, 4] rfl
          have hDc := hD.sub (ws' := (wC cJ b1 b0 bw bq bf w en pl cu li ld fb)) [0, 1, 2, 3, 4] (by decide) rfl
          have hFc := va_free (wc := (wC cJ b1 b0 bw bq bf w en pl cu li ld fb)) hD hS hA [0, 1, 2, 3, 4] rfl
          refine va_calll (va_runV (As := []) (rest := []) ⟨hx, hb, hml, hown, hts⟩ (c_X1_readOmega l dC dI cI cJ b1 b0 bw bq bf s.heap.size w en pl cu li ld fb _ hc) (cwV 0 hts gX1_readCodeword_X1_readOmega rfl rfl rfl (by decide +kernel) ⟨Nat.le_of_ble_eq_true rfl, Nat.le_of_ble_eq_true rfl⟩) ⟨fun a U g mk q => ⟨q.1, jPr.blind q.2.1, jNs.blind q.2.2⟩, va_recv hK hPc (ci := 1) (q0 := 0) rfl rfl, fun U hU hW => ⟨rfl, jPr.mk hU hW hPc hK hDc, jNs.warm hW hN⟩⟩ rfl rfl hl.1 rfl (lv_room (Nat.le_of_ble_eq_true rfl)) dX1_readCodeword_66 ⟨Nat.le_of_ble_eq_true rfl, Nat.le_of_ble_eq_true rfl⟩) hS (fun q _ h => hFc q h) hFc (fun rr u t H1 locs ht hvm hw9 hB hz1 hk1 hS => ?_)
          have hw8 : v9 = rr := hw9.symm
          subst hw8
          obtain ⟨hP1, hK1, hD1⟩ := hB
          rw [ht] at hP1
          obtain ⟨hP, hD⟩ := va_join (wr := ([] : va_W)) (w1 := (wC cJ b1 b0 bw bq bf w en pl v10 li ld fb)) hP hD [0, 1, 2, 3, 4] [] rfl rfl (by decide) (by decide) hk1 hFc hP1 hD1
          clear hk1 hP1 hK1 hD1 hvm hz1 hPc hDc hFc
          generalize H1 = H at hP hS ⊢
          have hP : va_P (dC, dI) vwCl (wC cJ b1 b0 bw bq bf w en pl v10 li ld fb) H := hP
          have hD : va_D A (wC cJ b1 b0 bw bq bf w en pl v10 li ld fb) := hD
          have hr9 : (v9, v10) = r := Option.some.inj hj
          subst hr9
          exact W.lret (v := v9) hx hb hr (fun t ht hW => ⟨⟨v9, (), rfl, rfl, by rw [ht]; exact hP, va_K.moved hW.alike hK, hD⟩, hS.F ht⟩) hS.2.2 dX1_readCodeword_69
        · replace hj := ja_neg q3 hj
          by_cases q4 : a1 = (4 : Int32)
          · replace hj := ja_pos q4 hj
            refine lv_tableIn (tgt := 70) hx hb dX1_readCodeword_1 (by rw [q4]; decide) (by rw [q4]; decide) (by rw [q4]; rfl) (by decide) ?_
            refine lv_aload_n hx hb dX1_readCodeword_70 rfl (lv_at hl 0 rfl) ?_
            obtain ⟨⟨v11, v12⟩, hc, hj⟩ := ja_bd hj
            try dsimp only at hj
            have hPc := hP.sub (ws' := (wC cJ b1 b0 bw bq bf w en pl cu li ld fb)) [0, 1, 2, 3, 4] rfl
            have hDc := hD.sub (ws' := (wC cJ b1 b0 bw bq bf w en pl cu li ld fb)) [0, 1, 2, 3, 4] (by decide) rfl
            have hFc := va_free (wc := (wC cJ b1 b0 bw bq bf w en pl cu li ld fb)) hD hS hA [0, 1, 2, 3, 4] rfl
            refine va_calll (va_runV (As := []) (rest := []) ⟨hx, hb, hml, hown, hts⟩ (c_X1_readFibonacci l dC dI cI cJ b1 b0 bw bq bf s.heap.size w en pl cu li ld fb _ hc) (cwV 0 hts gX1_readCodeword_X1_readFibonacci rfl rfl rfl (by decide +kernel) ⟨Nat.le_of_ble_eq_true rfl, Nat.le_of_ble_eq_true rfl⟩) ⟨fun a U g mk q => ⟨q.1, jPr.blind q.2.1, jNs.blind q.2.2⟩, va_recv hK hPc (ci := 1) (q0 := 0) rfl rfl, fun U hU hW => ⟨rfl, jPr.mk hU hW hPc hK hDc, jNs.warm hW hN⟩⟩ rfl rfl hl.1 rfl (lv_room (Nat.le_of_ble_eq_true rfl)) dX1_readCodeword_71 ⟨Nat.le_of_ble_eq_true rfl, Nat.le_of_ble_eq_true rfl⟩) hS (fun q _ h => hFc q h) hFc (fun rr u t H1 locs ht hvm hw9 hB hz1 hk1 hS => ?_)
            have hw8 : v11 = rr := hw9.symm
            subst hw8
            obtain ⟨hP1, hK1, hD1⟩ := hB
            rw [ht] at hP1
            obtain ⟨hP, hD⟩ := va_join (wr := ([] : va_W)) (w1 := (wC cJ b1 b0 bw bq bf w en pl v12 li ld fb)) hP hD [0, 1, 2, 3, 4] [] rfl rfl (by decide) (by decide) hk1 hFc hP1 hD1
            clear hk1 hP1 hK1 hD1 hvm hz1 hPc hDc hFc
            generalize H1 = H at hP hS ⊢
            have hP : va_P (dC, dI) vwCl (wC cJ b1 b0 bw bq bf w en pl v12 li ld fb) H := hP
            have hD : va_D A (wC cJ b1 b0 bw bq bf w en pl v12 li ld fb) := hD
            have hr9 : (v11, v12) = r := Option.some.inj hj
            subst hr9
            exact W.lret (v := v11) hx hb hr (fun t ht hW => ⟨⟨v11, (), rfl, rfl, by rw [ht]; exact hP, va_K.moved hW.alike hK, hD⟩, hS.F ht⟩) hS.2.2 dX1_readCodeword_74
          · replace hj := ja_neg q4 hj
            by_cases q5 : a1 = (5 : Int32)
            · replace hj := ja_pos q5 hj
              refine lv_tableIn (tgt := 75) hx hb dX1_readCodeword_1 (by rw [q5]; decide) (by rw [q5]; decide) (by rw [q5]; rfl) (by decide) ?_
              refine lv_aload_n hx hb dX1_readCodeword_75 rfl (lv_at hl 0 rfl) ?_
              refine lv_iload_n hx hb dX1_readCodeword_76 rfl (lv_at hl 2 rfl) ?_
              obtain ⟨⟨v13, v14⟩, hc, hj⟩ := ja_bd hj
              try dsimp only at hj
              have hPc := hP.sub (ws' := (wC cJ b1 b0 bw bq bf w en pl cu li ld fb)) [0, 1, 2, 3, 4] rfl
              have hDc := hD.sub (ws' := (wC cJ b1 b0 bw bq bf w en pl cu li ld fb)) [0, 1, 2, 3, 4] (by decide) rfl
              have hFc := va_free (wc := (wC cJ b1 b0 bw bq bf w en pl cu li ld fb)) hD hS hA [0, 1, 2, 3, 4] rfl
              refine va_calll (va_runV (As := [.int a2]) (rest := []) ⟨hx, hb, hml, hown, hts⟩ (c_X1_readGolomb l dC dI cI cJ b1 b0 bw bq bf s.heap.size w en pl cu li ld fb a2 _ hc) (cwV 1 hts gX1_readCodeword_X1_readGolomb rfl rfl rfl (by decide +kernel) ⟨Nat.le_of_ble_eq_true rfl, Nat.le_of_ble_eq_true rfl⟩) ⟨fun a U g mk q => ⟨q.1, jPr.blind q.2.1, jNs.blind q.2.2⟩, va_recv hK hPc (ci := 1) (q0 := 0) rfl rfl, fun U hU hW => ⟨rfl, jPr.mk hU hW hPc hK hDc, jNs.warm hW hN⟩⟩ rfl rfl hl.1 rfl (lv_room (Nat.le_of_ble_eq_true rfl)) dX1_readCodeword_77 ⟨Nat.le_of_ble_eq_true rfl, Nat.le_of_ble_eq_true rfl⟩) hS (fun q _ h => hFc q h) hFc (fun rr u t H1 locs ht hvm hw9 hB hz1 hk1 hS => ?_)
              have hw8 : v13 = rr := hw9.symm
              subst hw8
              obtain ⟨hP1, hK1, hD1⟩ := hB
              rw [ht] at hP1
              obtain ⟨hP, hD⟩ := va_join (wr := ([] : va_W)) (w1 := (wC cJ b1 b0 bw bq bf w en pl v14 li ld fb)) hP hD [0, 1, 2, 3, 4] [] rfl rfl (by decide) (by decide) hk1 hFc hP1 hD1
              clear hk1 hP1 hK1 hD1 hvm hz1 hPc hDc hFc
              generalize H1 = H at hP hS ⊢
              have hP : va_P (dC, dI) vwCl (wC cJ b1 b0 bw bq bf w en pl v14 li ld fb) H := hP
              have hD : va_D A (wC cJ b1 b0 bw bq bf w en pl v14 li ld fb) := hD
              have hr9 : (v13, v14) = r := Option.some.inj hj
              subst hr9
              exact W.lret (v := v13) hx hb hr (fun t ht hW => ⟨⟨v13, (), rfl, rfl, by rw [ht]; exact hP, va_K.moved hW.alike hK, hD⟩, hS.F ht⟩) hS.2.2 dX1_readCodeword_80
            · replace hj := ja_neg q5 hj
              by_cases q6 : a1 = (6 : Int32)
              · replace hj := ja_pos q6 hj
                refine lv_tableIn (tgt := 81) hx hb dX1_readCodeword_1 (by rw [q6]; decide) (by rw [q6]; decide) (by rw [q6]; rfl) (by decide) ?_
                refine lv_aload_n hx hb dX1_readCodeword_81 rfl (lv_at hl 0 rfl) ?_
                refine lv_iload_n hx hb dX1_readCodeword_82 rfl (lv_at hl 2 rfl) ?_
                obtain ⟨⟨v15, v16⟩, hc, hj⟩ := ja_bd hj
                try dsimp only at hj
                have hPc := hP.sub (ws' := (wC cJ b1 b0 bw bq bf w en pl cu li ld fb)) [0, 1, 2, 3, 4] rfl
                have hDc := hD.sub (ws' := (wC cJ b1 b0 bw bq bf w en pl cu li ld fb)) [0, 1, 2, 3, 4] (by decide) rfl
                have hFc := va_free (wc := (wC cJ b1 b0 bw bq bf w en pl cu li ld fb)) hD hS hA [0, 1, 2, 3, 4] rfl
                refine va_calll (va_runV (As := [.int a2]) (rest := []) ⟨hx, hb, hml, hown, hts⟩ (c_X1_readExpGolomb l dC dI cI cJ b1 b0 bw bq bf s.heap.size w en pl cu li ld fb a2 _ hc) (cwV 1 hts gX1_readCodeword_X1_readExpGolomb rfl rfl rfl (by decide +kernel) ⟨Nat.le_of_ble_eq_true rfl, Nat.le_of_ble_eq_true rfl⟩) ⟨fun a U g mk q => ⟨q.1, jPr.blind q.2.1, jNs.blind q.2.2⟩, va_recv hK hPc (ci := 1) (q0 := 0) rfl rfl, fun U hU hW => ⟨rfl, jPr.mk hU hW hPc hK hDc, jNs.warm hW hN⟩⟩ rfl rfl hl.1 rfl (lv_room (Nat.le_of_ble_eq_true rfl)) dX1_readCodeword_83 ⟨Nat.le_of_ble_eq_true rfl, Nat.le_of_ble_eq_true rfl⟩) hS (fun q _ h => hFc q h) hFc (fun rr u t H1 locs ht hvm hw9 hB hz1 hk1 hS => ?_)
                have hw8 : v15 = rr := hw9.symm
                subst hw8
                obtain ⟨hP1, hK1, hD1⟩ := hB
                rw [ht] at hP1
                obtain ⟨hP, hD⟩ := va_join (wr := ([] : va_W)) (w1 := (wC cJ b1 b0 bw bq bf w en pl v16 li ld fb)) hP hD [0, 1, 2, 3, 4] [] rfl rfl (by decide) (by decide) hk1 hFc hP1 hD1
                clear hk1 hP1 hK1 hD1 hvm hz1 hPc hDc hFc
                generalize H1 = H at hP hS ⊢
                have hP : va_P (dC, dI) vwCl (wC cJ b1 b0 bw bq bf w en pl v16 li ld fb) H := hP
                have hD : va_D A (wC cJ b1 b0 bw bq bf w en pl v16 li ld fb) := hD
                have hr9 : (v15, v16) = r := Option.some.inj hj
                subst hr9
                exact W.lret (v := v15) hx hb hr (fun t ht hW => ⟨⟨v15, (), rfl, rfl, by rw [ht]; exact hP, va_K.moved hW.alike hK, hD⟩, hS.F ht⟩) hS.2.2 dX1_readCodeword_86
              · replace hj := ja_neg q6 hj
                have n0 := ja_sw (z := 0) (by decide) q0
                have n1 := ja_sw (z := 1) (by decide) q1
                have n2 := ja_sw (z := 2) (by decide) q2
                have n3 := ja_sw (z := 3) (by decide) q3
                have n4 := ja_sw (z := 4) (by decide) q4
                have n5 := ja_sw (z := 5) (by decide) q5
                have n6 := ja_sw (z := 6) (by decide) q6
                refine lv_tableOut (tgt := 87) hx hb dX1_readCodeword_1 (by omega) (by decide) ?_
                refine lv_aload_n hx hb dX1_readCodeword_87 rfl (lv_at hl 0 rfl) ?_
                refine lv_iload_n hx hb dX1_readCodeword_88 rfl (lv_at hl 2 rfl) ?_
                obtain ⟨⟨v1, v2⟩, hc, hj⟩ := ja_bd hj
                try dsimp only at hj
                have hPc := hP.sub (ws' := (wC cJ b1 b0 bw bq bf w en pl cu li ld fb)) [0, 1, 2, 3, 4] rfl
                have hDc := hD.sub (ws' := (wC cJ b1 b0 bw bq bf w en pl cu li ld fb)) [0, 1, 2, 3, 4] (by decide) rfl
                have hFc := va_free (wc := (wC cJ b1 b0 bw bq bf w en pl cu li ld fb)) hD hS hA [0, 1, 2, 3, 4] rfl
                refine va_calll (va_runV (As := [.int a2]) (rest := []) ⟨hx, hb, hml, hown, hts⟩ (c_X1_readGroups l dC dI cI cJ b1 b0 bw bq bf s.heap.size w en pl cu li ld fb a2 _ hc) (cwV 1 hts gX1_readCodeword_X1_readGroups rfl rfl rfl (by decide +kernel) ⟨Nat.le_of_ble_eq_true rfl, Nat.le_of_ble_eq_true rfl⟩) ⟨fun a U g mk q => ⟨q.1, jPr.blind q.2.1, jNs.blind q.2.2⟩, va_recv hK hPc (ci := 1) (q0 := 0) rfl rfl, fun U hU hW => ⟨rfl, jPr.mk hU hW hPc hK hDc, jNs.warm hW hN⟩⟩ rfl rfl hl.1 rfl (lv_room (Nat.le_of_ble_eq_true rfl)) dX1_readCodeword_89 ⟨Nat.le_of_ble_eq_true rfl, Nat.le_of_ble_eq_true rfl⟩) hS (fun q _ h => hFc q h) hFc (fun rr u t H1 locs ht hvm hw9 hB hz1 hk1 hS => ?_)
                have hw8 : v1 = rr := hw9.symm
                subst hw8
                obtain ⟨hP1, hK1, hD1⟩ := hB
                rw [ht] at hP1
                obtain ⟨hP, hD⟩ := va_join (wr := ([] : va_W)) (w1 := (wC cJ b1 b0 bw bq bf w en pl v2 li ld fb)) hP hD [0, 1, 2, 3, 4] [] rfl rfl (by decide) (by decide) hk1 hFc hP1 hD1
                clear hk1 hP1 hK1 hD1 hvm hz1 hPc hDc hFc
                generalize H1 = H at hP hS ⊢
                have hP : va_P (dC, dI) vwCl (wC cJ b1 b0 bw bq bf w en pl v2 li ld fb) H := hP
                have hD : va_D A (wC cJ b1 b0 bw bq bf w en pl v2 li ld fb) := hD
                have hr9 : (v1, v2) = r := Option.some.inj hj
                subst hr9
                exact W.lret (v := v1) hx hb hr (fun t ht hW => ⟨⟨v1, (), rfl, rfl, by rw [ht]; exact hP, va_K.moved hW.alike hK, hD⟩, hS.F ht⟩) hS.2.2 dX1_readCodeword_92

set_option maxRecDepth 100000 in
theorem inn_X1_readNext_X0 : ∀ w ∈ u_ws RX0 TX0 4, w ∈ wsX1_readNext := by decide +kernel
set_option maxRecDepth 100000 in
theorem inn_X1_readNext_X1 : ∀ w ∈ u_ws RX1 TX1 4, w ∈ wsX1_readNext := by decide +kernel
def j_X1_readNext (w : Nat → Int64) (en : Int32) (pl : Int32) (cu : Int32) (fb : Nat → Int64) (a1 : Int32) (a2 : Int32) : Option (Int64 × Int32 × Int32) :=
  (j_X1_readCodeword w en pl fb a1 a2).bind fun (v1, v2) => (if v1 = (-1 : Int64) then (some ((-1 : Int64), pl, v2)) else (if v2 ≤ en then (some (v1, v2, v2)) else (some ((-1 : Int64), pl, v2))))
set_option maxHeartbeats 4000000 in
set_option maxRecDepth 100000 in
theorem c_X1_readNext (l : Launch) (dC : Nat → ClassId) (dI : Nat → Nat → Nat) (cI cJ : ClassId) (b1 : Nat) (b0 : Nat) (bw : Nat) (bq : Nat) (bf : Nat) (sz : Nat) (w : Nat → Int64) (en : Int32) (pl : Int32) (cu : Int32) (li : Nat → Int64) (ld : Int32) (fb : Nat → Int64) (a1 : Int32) (a2 : Int32) (r : Int64 × Int32 × Int32) (hj : j_X1_readNext w en pl cu fb a1 a2 = some r) : Met l yX1_readNext wsX1_readNext ({ frames := 6, cells := 0, slots := 0, locals := 134 } : Room) (va_Pc [.ref b1, .int a1, .int a2] (fun U => jPr dC dI cI cJ (wC cJ b1 b0 bw bq bf w en pl cu li ld fb) sz U ∧ jNs U)) (va_Ql (fun (v : Int64) (_ : Unit) => v = r.1) (fun (_ : Unit) t => jPo dC dI cI cJ (wC cJ b1 b0 bw bq bf w en r.2.1 r.2.2 li ld fb) (va_A (wC cJ b1 b0 bw bq bf w en pl cu li ld fb) sz) t) (va_A (wC cJ b1 b0 bw bq bf w en pl cu li ld fb) sz)) 0 0 (va_A (wC cJ b1 b0 bw bq bf w en pl cu li ld fb) sz) := by
  refine Met.ofW (cc := cX1_readNext) (maxL := 5) (ret := (some .long)) (by decide) rfl ?_
  intro p e s m args below meth c s₁ B hml hv
  obtain ⟨rfl, ⟨hsz, hP, hK, hD0⟩, hN⟩ := hv
  have hx := B.exec
  have hb := B.bytes
  have hr := B.returns
  have hts := atoms_spec (ws := wsX1_readNext) B.pre
  have hown : s.vm.findClass RX1 = some m.cls := findClass_of_methodNamed B.named
  have hlocks := B.notSynchronized
  have C0 := jCx.of hx hb hr hml hown hts hlocks
  subst hsz
  have hD := hD0.self (sz := s.heap.size)
  generalize hAe : va_A (wC cJ b1 b0 bw bq bf w en pl cu li ld fb) s.heap.size = A at hD ⊢
  have hA : ∀ q : Nat, s.heap.size ≤ q → A q := fun q h => by rw [← hAe]; exact Or.inr h
  have hS : va_S A s.heap s.heap [] := va_S.rf
  have hP : va_P (dC, dI) vwCl (wC cJ b1 b0 bw bq bf w en pl cu li ld fb) s.heap := hP
  have hl := lv_entry ([.ref b1, .int a1, .int a2]) (n := 5) (Nat.le_of_ble_eq_true rfl)
  rw [lg_entry_eq]
  generalize (lg_sl ([.ref b1, .int a1, .int a2]) ++ List.replicate (5 - (lg_sl ([.ref b1, .int a1, .int a2])).length) Slot.unset).toArray = ls at hl ⊢
  have hl : lv_has ls 5 [(0, .ref b1), (1, .int a1), (2, .int a2)] := hl
  clear hD0 hAe
  unfold j_X1_readNext at hj
  refine lv_aload_n hx hb dX1_readNext_0 rfl (lv_at hl 0 rfl) ?_
  refine va_get (D := (dC, dI)) (ci := 1) (v := .ref b0) (C := RX1) (T := TX1) (N := 4) hx hb hts inn_X1_readNext_X1 hown hK hP 0 rfl rfl 0 (by decide) (hts (.fieldLink RX1 12 "SelfEndingCodes" "row" "LSelfEndingCodes$BitRow;") (by decide +kernel)) (fun _ h9 => h9) rfl dX1_readNext_1 ?_
  refine lv_aload_n hx hb dX1_readNext_4 rfl (lv_at hl 0 rfl) ?_
  refine va_get (D := (dC, dI)) (ci := 1) (v := .ref b0) (C := RX1) (T := TX1) (N := 4) hx hb hts inn_X1_readNext_X1 hown hK hP 0 rfl rfl 0 (by decide) (hts (.fieldLink RX1 12 "SelfEndingCodes" "row" "LSelfEndingCodes$BitRow;") (by decide +kernel)) (fun _ h9 => h9) rfl dX1_readNext_5 ?_
  refine va_getN (D := (dC, dI)) (ci := 0) (v := .int pl) (C := RX0) (T := TX0) (N := 4) hx hb hts inn_X1_readNext_X0 hown hK hP 1 rfl rfl 2 (by decide) (va_Nw.use rfl hN.2.1) (fun _ h9 => h9) rfl dX1_readNext_8 ?_
  refine va_putN (D := (dC, dI)) (ci := 0) (v := .int pl) (ty := .int) (C := RX0) (T := TX0) (N := 4) hx hb hts inn_X1_readNext_X0 tyX0 tyX0_ok nmX0 hown hK hP hD hS 1 rfl rfl 3 (by decide) (va_Nw.use rfl hN.2.2.1) (fun _ h9 => h9) rfl (by decide +kernel) rfl rfl (Nat.le_of_ble_eq_true rfl) dX1_readNext_11 (fun H locs hP hD hS => ?_)
  have hP : va_P (dC, dI) vwCl (wC cJ b1 b0 bw bq bf w en pl pl li ld fb) H := hP
  have hD : va_D A (wC cJ b1 b0 bw bq bf w en pl pl li ld fb) := hD
  refine lv_aload_n hx hb dX1_readNext_14 rfl (lv_at hl 0 rfl) ?_
  refine lv_iload_n hx hb dX1_readNext_15 rfl (lv_at hl 1 rfl) ?_
  refine lv_iload_n hx hb dX1_readNext_16 rfl (lv_at hl 2 rfl) ?_
  obtain ⟨⟨v1, v2⟩, hc, hj⟩ := ja_bd hj
  try dsimp only at hj
  have hPc := hP.sub (ws' := (wC cJ b1 b0 bw bq bf w en pl pl li ld fb)) [0, 1, 2, 3, 4] rfl
  have hDc := hD.sub (ws' := (wC cJ b1 b0 bw bq bf w en pl pl li ld fb)) [0, 1, 2, 3, 4] (by decide) rfl
  have hFc := va_free (wc := (wC cJ b1 b0 bw bq bf w en pl pl li ld fb)) hD hS hA [0, 1, 2, 3, 4] rfl
  refine va_calll (va_runV (As := [.int a1, .int a2]) (rest := []) ⟨hx, hb, hml, hown, hts⟩ (c_X1_readCodeword l dC dI cI cJ b1 b0 bw bq bf H.size w en pl pl li ld fb a1 a2 _ hc) (cwV 2 hts gX1_readNext_X1_readCodeword rfl rfl rfl (by decide +kernel) ⟨Nat.le_of_ble_eq_true rfl, Nat.le_of_ble_eq_true rfl⟩) ⟨fun a U g mk q => ⟨q.1, jPr.blind q.2.1, jNs.blind q.2.2⟩, va_recv hK hPc (ci := 1) (q0 := 0) rfl rfl, fun U hU hW => ⟨rfl, jPr.mk hU hW hPc hK hDc, jNs.warm hW hN⟩⟩ rfl rfl hl.1 rfl (lv_room (Nat.le_of_ble_eq_true rfl)) dX1_readNext_17 ⟨Nat.le_of_ble_eq_true rfl, Nat.le_of_ble_eq_true rfl⟩) hS (fun q _ h => hFc q h) hFc (fun rr u t H1 locs ht hvm hw9 hB hz1 hk1 hS => ?_)
  have hw8 : v1 = rr := hw9.symm
  subst hw8
  obtain ⟨hP1, hK1, hD1⟩ := hB
  rw [ht] at hP1
  obtain ⟨hP, hD⟩ := va_join (wr := ([] : va_W)) (w1 := (wC cJ b1 b0 bw bq bf w en pl v2 li ld fb)) hP hD [0, 1, 2, 3, 4] [] rfl rfl (by decide) (by decide) hk1 hFc hP1 hD1
  clear hk1 hP1 hK1 hD1 hvm hz1 hPc hDc hFc
  generalize H1 = H at hP hS ⊢
  have hP : va_P (dC, dI) vwCl (wC cJ b1 b0 bw bq bf w en pl v2 li ld fb) H := hP
  have hD : va_D A (wC cJ b1 b0 bw bq bf w en pl v2 li ld fb) := hD
  refine lv_lstore_n (lv' := [(3, .long v1), (0, .ref b1), (1, .int a1), (2, .int a2)]) hx hb dX1_readNext_20 rfl hl (by decide) rfl (fun ls hl => ?_)
  refine lv_lload_n hx hb dX1_readNext_21 rfl (lv_at hl 0 rfl) ?_
  refine lv_ldc2 (v := (-1 : Int64)) hx hb hown (hts (.constantLong RX1 97 (-1)) (by decide +kernel)) dX1_readNext_22 ?_
  refine W.lcmp hx hb dX1_readNext_25 ?_
  refine lv_if_eq (tgt := 46) hx hb dX1_readNext_26 (by decide) (fun c3 => ?_) (fun c3 => ?_)
  · replace hj := ja_pos ((lg_cmp_eq v1 (-1 : Int64)).mp c3) hj
    refine lv_ldc2 (v := (-1 : Int64)) hx hb hown (hts (.constantLong RX1 97 (-1)) (by decide +kernel)) dX1_readNext_46 ?_
    have hr9 : ((-1 : Int64), pl, v2) = r := Option.some.inj hj
    subst hr9
    exact W.lret (v := (-1 : Int64)) hx hb hr (fun t ht hW => ⟨⟨(-1 : Int64), (), rfl, rfl, by rw [ht]; exact hP, va_K.moved hW.alike hK, hD⟩, hS.F ht⟩) hS.2.2 dX1_readNext_49
  · replace hj := ja_neg (fun h9 => c3 ((lg_cmp_eq v1 (-1 : Int64)).mpr h9)) hj
    refine lv_aload_n hx hb dX1_readNext_29 rfl (lv_at hl 1 rfl) ?_
    refine va_get (D := (dC, dI)) (ci := 1) (v := .ref b0) (C := RX1) (T := TX1) (N := 4) hx hb hts inn_X1_readNext_X1 hown hK hP 0 rfl rfl 0 (by decide) (hts (.fieldLink RX1 12 "SelfEndingCodes" "row" "LSelfEndingCodes$BitRow;") (by decide +kernel)) (fun _ h9 => h9) rfl dX1_readNext_30 ?_
    refine va_getN (D := (dC, dI)) (ci := 0) (v := .int v2) (C := RX0) (T := TX0) (N := 4) hx hb hts inn_X1_readNext_X0 hown hK hP 1 rfl rfl 3 (by decide) (va_Nw.use rfl hN.2.2.1) (fun _ h9 => h9) rfl dX1_readNext_33 ?_
    refine lv_aload_n hx hb dX1_readNext_36 rfl (lv_at hl 1 rfl) ?_
    refine va_get (D := (dC, dI)) (ci := 1) (v := .ref b0) (C := RX1) (T := TX1) (N := 4) hx hb hts inn_X1_readNext_X1 hown hK hP 0 rfl rfl 0 (by decide) (hts (.fieldLink RX1 12 "SelfEndingCodes" "row" "LSelfEndingCodes$BitRow;") (by decide +kernel)) (fun _ h9 => h9) rfl dX1_readNext_37 ?_
    refine va_getN (D := (dC, dI)) (ci := 0) (v := .int en) (C := RX0) (T := TX0) (N := 4) hx hb hts inn_X1_readNext_X0 hown hK hP 1 rfl rfl 1 (by decide) (va_Nw.use rfl hN.1) (fun _ h9 => h9) rfl dX1_readNext_40 ?_
    refine lv_icmp_le (tgt := 50) hx hb dX1_readNext_43 (by decide) (fun c4 => ?_) (fun c4 => ?_)
    · replace hj := ja_pos c4 hj
      refine lv_aload_n hx hb dX1_readNext_50 rfl (lv_at hl 1 rfl) ?_
      refine va_get (D := (dC, dI)) (ci := 1) (v := .ref b0) (C := RX1) (T := TX1) (N := 4) hx hb hts inn_X1_readNext_X1 hown hK hP 0 rfl rfl 0 (by decide) (hts (.fieldLink RX1 12 "SelfEndingCodes" "row" "LSelfEndingCodes$BitRow;") (by decide +kernel)) (fun _ h9 => h9) rfl dX1_readNext_51 ?_
      refine lv_aload_n hx hb dX1_readNext_54 rfl (lv_at hl 1 rfl) ?_
      refine va_get (D := (dC, dI)) (ci := 1) (v := .ref b0) (C := RX1) (T := TX1) (N := 4) hx hb hts inn_X1_readNext_X1 hown hK hP 0 rfl rfl 0 (by decide) (hts (.fieldLink RX1 12 "SelfEndingCodes" "row" "LSelfEndingCodes$BitRow;") (by decide +kernel)) (fun _ h9 => h9) rfl dX1_readNext_55 ?_
      refine va_getN (D := (dC, dI)) (ci := 0) (v := .int v2) (C := RX0) (T := TX0) (N := 4) hx hb hts inn_X1_readNext_X0 hown hK hP 1 rfl rfl 3 (by decide) (va_Nw.use rfl hN.2.2.1) (fun _ h9 => h9) rfl dX1_readNext_58 ?_
      refine va_putN (D := (dC, dI)) (ci := 0) (v := .int v2) (ty := .int) (C := RX0) (T := TX0) (N := 4) hx hb hts inn_X1_readNext_X0 tyX0 tyX0_ok nmX0 hown hK hP hD hS 1 rfl rfl 2 (by decide) (va_Nw.use rfl hN.2.1) (fun _ h9 => h9) rfl (by decide +kernel) rfl rfl (Nat.le_of_ble_eq_true rfl) dX1_readNext_61 (fun H locs hP hD hS => ?_)
      have hP : va_P (dC, dI) vwCl (wC cJ b1 b0 bw bq bf w en v2 v2 li ld fb) H := hP
      have hD : va_D A (wC cJ b1 b0 bw bq bf w en v2 v2 li ld fb) := hD
      refine lv_lload_n hx hb dX1_readNext_64 rfl (lv_at hl 0 rfl) ?_
      have hr9 : (v1, v2, v2) = r := Option.some.inj hj
      subst hr9
      exact W.lret (v := v1) hx hb hr (fun t ht hW => ⟨⟨v1, (), rfl, rfl, by rw [ht]; exact hP, va_K.moved hW.alike hK, hD⟩, hS.F ht⟩) hS.2.2 dX1_readNext_65
    · replace hj := ja_neg c4 hj
      refine lv_ldc2 (v := (-1 : Int64)) hx hb hown (hts (.constantLong RX1 97 (-1)) (by decide +kernel)) dX1_readNext_46 ?_
      have hr9 : ((-1 : Int64), pl, v2) = r := Option.some.inj hj
      subst hr9
      exact W.lret (v := (-1 : Int64)) hx hb hr (fun t ht hW => ⟨⟨(-1 : Int64), (), rfl, rfl, by rw [ht]; exact hP, va_K.moved hW.alike hK, hD⟩, hS.F ht⟩) hS.2.2 dX1_readNext_49

