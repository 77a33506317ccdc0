abbrev wH (cJ : ClassId) (b1 b0 bw bq bf bo : Nat) (w : Nat → Int64) (en pl cu : Int32) (li : Nat → Int64) (ld : Int32) (fb : Nat → Int64) (ou : Nat → Int64) : va_W := [(b1, .inr (1, [.ref b0, .ref bq, .ref bf, .int ld])), (b0, .inr (0, [.ref bw, .int en, .int pl, .int cu])), (bw, .inl (cJ, 64, .inr (.inl w))), (bq, .inl (cJ, 100, .inr (.inl li))), (bf, .inl (cJ, 89, .inr (.inl fb))), (bo, .inl (cJ, 1, .inr (.inl ou)))]
def j_L_length (fb : Nat → Int64) (ou : Nat → Int64) (a1 : Int32) (a2 : Int32) (a3 : Int64) : Option (Int32 × (Nat → Int64)) :=
  (j_X1_length fb a1 a2 a3).bind fun q => match q with
    | none => some ((1 : Int32), ou)
    | some v1 => (jix (0 : Int32) 1 (some ((0 : Int32), vp_updL ou (0 : Int32).toNatClampNeg v1)))
set_option maxHeartbeats 4000000 in
set_option maxRecDepth 100000 in
theorem c_L_length (l : Launch) (hlt : l.stackTraces = false) (dC : Nat → ClassId) (dI : Nat → Nat → Nat) (cI cJ : ClassId) (b1 : Nat) (b0 : Nat) (bw : Nat) (bq : Nat) (bf : Nat) (bo : Nat) (sz : Nat) (w : Nat → Int64) (en : Int32) (pl : Int32) (cu : Int32) (li : Nat → Int64) (ld : Int32) (fb : Nat → Int64) (ou : Nat → Int64) (a1 : Int32) (a2 : Int32) (a3 : Int64) (r : Int32 × (Nat → Int64)) (hj : j_L_length fb ou a1 a2 a3 = some r) : Met l yL_length wsL_length ({ frames := 8, cells := 1, slots := 6, locals := 159 } : Room) (va_Pc [.ref b1, .int a1, .int a2, .long a3, .ref bo] (fun U => jPr dC dI cI cJ (wH cJ b1 b0 bw bq bf bo w en pl cu li ld fb ou) sz U ∧ jNs U ∧ jXs (va_A (wH cJ b1 b0 bw bq bf bo w en pl cu li ld fb ou) sz) U)) (va_Qi (fun (v : Int32) (_ : Unit) => v = r.1) (fun (_ : Unit) t => jPo dC dI cI cJ (wH cJ b1 b0 bw bq bf bo w en pl cu li ld fb r.2) (va_A (wH cJ b1 b0 bw bq bf bo w en pl cu li ld fb ou) sz) t) (va_A (wH cJ b1 b0 bw bq bf bo w en pl cu li ld fb ou) sz)) 1 6 (va_A (wH cJ b1 b0 bw bq bf bo w en pl cu li ld fb ou) sz) := by
  refine va_MetW (cc := cL_length) (maxL := 7) (ret := (some .int)) (hh := [(0, 11, 14, 13)]) (by decide) rfl ?_
  intro p e s m args below meth c s₁ B hml hv
  obtain ⟨rfl, ⟨hsz, hP, hK, hD0⟩, hN, hXs⟩ := hv
  have hx := B.exec
  have hb := B.bytes
  have hr := B.returns
  have hts := atoms_spec (ws := wsL_length) B.pre
  have hown : s.vm.findClass RL = some m.cls := findClass_of_methodNamed B.named
  have hlocks := B.notSynchronized
  have htab : c.exceptionTable.toList = [⟨0, 11, 14, 13⟩] := vx_table (x := yL_length) B (hts (.codeWith yL_length cL_length 7 (some .int) [(0, 11, 14, 13)]) (List.mem_cons_self))
  subst hsz
  have hD := hD0.self (sz := s.heap.size)
  generalize hAe : va_A (wH cJ b1 b0 bw bq bf bo w en pl cu li ld fb ou) s.heap.size = A at hD hXs ⊢
  have hA : ∀ q : Nat, s.heap.size ≤ q → A q := fun q h => by rw [← hAe]; exact Or.inr h
  have hS : va_S A s.heap s.heap [] := va_S.rf
  have hP : va_P (dC, dI) vwCl (wH cJ b1 b0 bw bq bf bo w en pl cu li ld fb ou) s.heap := hP
  have hl := lv_entry ([.ref b1, .int a1, .int a2, .long a3, .ref bo]) (n := 7) (Nat.le_of_ble_eq_true rfl)
  rw [lg_entry_eq]
  generalize (lg_sl ([.ref b1, .int a1, .int a2, .long a3, .ref bo]) ++ List.replicate (7 - (lg_sl ([.ref b1, .int a1, .int a2, .long a3, .ref bo])).length) Slot.unset).toArray = ls at hl ⊢
  have hl : lv_has ls 7 [(0, .ref b1), (1, .int a1), (2, .int a2), (3, .long a3), (5, .ref bo)] := hl
  clear hD0 hAe
  unfold j_L_length at hj
  refine lv_aload hx hb dL_length_0 (lv_at hl 4 rfl) ?_
  refine lv_iconst (v := (0 : Int32)) hx hb dL_length_2 (by decide) ?_
  refine lv_aload_n hx hb dL_length_3 rfl (lv_at hl 0 rfl) ?_
  refine lv_iload_n hx hb dL_length_4 rfl (lv_at hl 1 rfl) ?_
  refine lv_iload_n hx hb dL_length_5 rfl (lv_at hl 2 rfl) ?_
  refine lv_lload_n hx hb dL_length_6 rfl (lv_at hl 3 rfl) ?_
  obtain ⟨q, hc, hj⟩ := ja_bd hj
  rcases q with _ | v1
  · try dsimp only at hj
    have hPc := hP.sub (ws' := (wC cJ b1 b0 bw bq bf w en pl cu li ld fb)) [0, 1, 2, 3, 4] rfl
    have hDc := hD.sub (ws' := (wC cJ b1 b0 bw bq bf w en pl cu li ld fb)) [0, 1, 2, 3, 4] (by decide) rfl
    have hFc := va_free (wc := (wC cJ b1 b0 bw bq bf w en pl cu li ld fb)) hD hS hA [0, 1, 2, 3, 4] rfl
    refine vx_calll (vx_runV (As := [.int a1, .int a2, .long a3]) (rest := [.int (0 : Int32), .ref bo]) ⟨hx, hb, hml, hown, hts⟩ (x_X1_length l hlt dC dI cI cJ b1 b0 bw bq bf s.heap.size w en pl cu li ld fb a1 a2 a3 hc) (cwV 3 hts gL_length_X1_length rfl rfl rfl (by decide +kernel) ⟨Nat.le_of_ble_eq_true rfl, Nat.le_of_ble_eq_true rfl⟩) ⟨fun a U g mk q => ⟨q.1, jPr.blind q.2.1, jNs.blind q.2.2.1, jXs.blind q.2.2.2⟩, va_recv hK hPc (ci := 1) (q0 := 0) rfl rfl, fun U hU hW => ⟨rfl, jPr.mk hU hW hPc hK hDc, jNs.warm hW hN, jXs.down hU hW hS hFc hXs⟩⟩ rfl rfl hl.1 rfl (lv_room (Nat.le_of_ble_eq_true rfl)) dL_length_7 ⟨Nat.le_of_ble_eq_true rfl, Nat.le_of_ble_eq_true rfl⟩) hS (fun q _ h => hFc q h) hFc (fun q _ h => hFc q h) (fun E ce q9 u t H1 locs ht hvm hpx hBX hz1 hk1 hS hce hcv hcl => ?_) (fun rr u t H1 locs1 ht hvm hw9 hB hz1 hk1 hS => hw9.elim)
    obtain ⟨rfl, hP1, hK1, hD1⟩ := hBX
    rw [ht] at hP1
    obtain ⟨hP, hD⟩ := va_join (wr := ([(bo, .inl (cJ, 1, .inr (.inl ou)))] : va_W)) (w1 := (wC cJ b1 b0 bw bq bf w en pl cu li ld fb)) hP hD [0, 1, 2, 3, 4] [5] rfl rfl (by decide) (by decide) hk1 hFc hP1 hD1
    replace hP := hP.sub (ws' := (wH cJ b1 b0 bw bq bf bo w en pl cu li ld fb ou)) [1, 2, 3, 4, 5, 0] rfl
    replace hD := hD.sub (ws' := (wH cJ b1 b0 bw bq bf bo w en pl cu li ld fb ou)) [1, 2, 3, 4, 5, 0] (by decide) rfl
    clear hk1 hP1 hK1 hD1 hvm hz1 hPc hDc hFc
    refine kx_catch (name := "java/lang/IllegalArgumentException") hown ⟨0, 11, 14, 13⟩ htab (by decide) (by decide) (hts (.classLink RL 13 "java/lang/IllegalArgumentException") (by decide +kernel)) (hXs.wA _ _ (List.mem_of_getElem? (i := 3) rfl)) hce hcv hcl ?_
    generalize H1 = H at hP hS ⊢
    have hP : va_P (dC, dI) vwCl (wH cJ b1 b0 bw bq bf bo w en pl cu li ld fb ou) H := hP
    have hD : va_D A (wH cJ b1 b0 bw bq bf bo w en pl cu li ld fb ou) := hD
    refine lv_astore (lv' := [(6, .ref q9), (0, .ref b1), (1, .int a1), (2, .int a2), (3, .long a3), (5, .ref bo)]) hx hb dL_length_14 hl (by decide) rfl (fun ls hl => ?_)
    refine lv_iconst (v := (1 : Int32)) hx hb dL_length_16 (by decide) ?_
    refine W.widen (k := 1) (n := 6) (by decide) (by decide) ?_
    have hr9 : ((1 : Int32), ou) = r := Option.some.inj hj
    subst hr9
    exact W.iret (v := (1 : Int32)) hx hb hr (fun t ht hW => ⟨⟨(1 : Int32), (), rfl, rfl, by rw [ht]; exact hP, va_K.moved hW.alike hK, hD⟩, hS.F ht⟩) hS.2.2 dL_length_17
  · try dsimp only at hj
    have hPc := hP.sub (ws' := (wC cJ b1 b0 bw bq bf w en pl cu li ld fb)) [0, 1, 2, 3, 4] rfl
    have hDc := hD.sub (ws' := (wC cJ b1 b0 bw bq bf w en pl cu li ld fb)) [0, 1, 2, 3, 4] (by decide) rfl
    have hFc := va_free (wc := (wC cJ b1 b0 bw bq bf w en pl cu li ld fb)) hD hS hA [0, 1, 2, 3, 4] rfl
    refine va_calll (va_runV (As := [.int a1, .int a2, .long a3]) (rest := [.int (0 : Int32), .ref bo]) ⟨hx, hb, hml, hown, hts⟩ (c_X1_length l dC dI cI cJ b1 b0 bw bq bf s.heap.size w en pl cu li ld fb a1 a2 a3 _ hc) (cwV 3 hts gL_length_X1_length rfl rfl rfl (by decide +kernel) ⟨Nat.le_of_ble_eq_true rfl, Nat.le_of_ble_eq_true rfl⟩) ⟨fun a U g mk q => ⟨q.1, jPr.blind q.2.1, jNs.blind q.2.2⟩, va_recv hK hPc (ci := 1) (q0 := 0) rfl rfl, fun U hU hW => ⟨rfl, jPr.mk hU hW hPc hK hDc, jNs.warm hW hN⟩⟩ rfl rfl hl.1 rfl (lv_room (Nat.le_of_ble_eq_true rfl)) dL_length_7 ⟨Nat.le_of_ble_eq_true rfl, Nat.le_of_ble_eq_true rfl⟩) hS (fun q _ h => hFc q h) hFc (fun rr u t H1 locs ht hvm hw9 hB hz1 hk1 hS => ?_)
    have hw8 : v1 = rr := hw9.symm
    subst hw8
    obtain ⟨hP1, hK1, hD1⟩ := hB
    rw [ht] at hP1
    obtain ⟨hP, hD⟩ := va_join (wr := ([(bo, .inl (cJ, 1, .inr (.inl ou)))] : va_W)) (w1 := (wC cJ b1 b0 bw bq bf w en pl cu li ld fb)) hP hD [0, 1, 2, 3, 4] [5] rfl rfl (by decide) (by decide) hk1 hFc hP1 hD1
    replace hP := hP.sub (ws' := (wH cJ b1 b0 bw bq bf bo w en pl cu li ld fb ou)) [1, 2, 3, 4, 5, 0] rfl
    replace hD := hD.sub (ws' := (wH cJ b1 b0 bw bq bf bo w en pl cu li ld fb ou)) [1, 2, 3, 4, 5, 0] (by decide) rfl
    clear hk1 hP1 hK1 hD1 hvm hz1 hPc hDc hFc
    generalize H1 = H at hP hS ⊢
    have hP : va_P (dC, dI) vwCl (wH cJ b1 b0 bw bq bf bo w en pl cu li ld fb ou) H := hP
    have hD : va_D A (wH cJ b1 b0 bw bq bf bo w en pl cu li ld fb ou) := hD
    obtain ⟨hin, hj⟩ := ja_ix hj
    refine va_last hx hb hK hP hD hS 5 1 rfl rfl hin dL_length_10 (fun H locs hP hD hS => ?_)
    have hP : va_P (dC, dI) vwCl (wH cJ b1 b0 bw bq bf bo w en pl cu li ld fb (vp_updL ou (0 : Int32).toNatClampNeg v1)) H := hP
    have hD : va_D A (wH cJ b1 b0 bw bq bf bo w en pl cu li ld fb (vp_updL ou (0 : Int32).toNatClampNeg v1)) := hD
    refine lv_goto (tgt := 18) hx hb dL_length_11 (by decide) ?_
    refine lv_iconst (v := (0 : Int32)) hx hb dL_length_18 (by decide) ?_
    refine W.widen (k := 1) (n := 6) (by decide) (by decide) ?_
    have hr9 : ((0 : Int32), vp_updL ou (0 : Int32).toNatClampNeg v1) = r := Option.some.inj hj
    subst hr9
    exact W.iret (v := (0 : Int32)) hx hb hr (fun t ht hW => ⟨⟨(0 : Int32), (), rfl, rfl, by rw [ht]; exact hP, va_K.moved hW.alike hK, hD⟩, hS.F ht⟩) hS.2.2 dL_length_19

def j_L_put (w : Nat → Int64) (en : Int32) (fb : Nat → Int64) (ou : Nat → Int64) (a1 : Int32) (a2 : Int32) (a3 : Int64) : Option (Int32 × (Nat → Int64) × Int32 × (Nat → Int64)) :=
  (j_X1_put w en fb a1 a2 a3).bind fun q => match q with
    | none => some ((1 : Int32), w, en, ou)
    | some (v1, v2, v3) => (jix (0 : Int32) 1 (some ((0 : Int32), v2, v3, vp_updL ou (0 : Int32).toNatClampNeg v1.toInt64)))
set_option maxHeartbeats 4000000 in
set_option maxRecDepth 100000 in
theorem c_L_put (l : Launch) (hlt : l.stackTraces = false) (dC : Nat → ClassId) (dI : Nat → Nat → Nat) (cI cJ : ClassId) (b1 : Nat) (b0 : Nat) (bw : Nat) (bq : Nat) (bf : Nat) (bo : Nat) (sz : Nat) (w : Nat → Int64) (en : Int32) (pl : Int32) (cu : Int32) (li : Nat → Int64) (ld : Int32) (fb : Nat → Int64) (ou : Nat → Int64) (a1 : Int32) (a2 : Int32) (a3 : Int64) (r : Int32 × (Nat → Int64) × Int32 × (Nat → Int64)) (hj : j_L_put w en fb ou a1 a2 a3 = some r) : Met l yL_put wsL_put ({ frames := 8, cells := 1, slots := 6, locals := 190 } : Room) (va_Pc [.ref b1, .int a1, .int a2, .long a3, .ref bo] (fun U => jPr dC dI cI cJ (wH cJ b1 b0 bw bq bf bo w en pl cu li ld fb ou) sz U ∧ jNs U ∧ jXs (va_A (wH cJ b1 b0 bw bq bf bo w en pl cu li ld fb ou) sz) U)) (va_Qi (fun (v : Int32) (_ : Unit) => v = r.1) (fun (_ : Unit) t => jPo dC dI cI cJ (wH cJ b1 b0 bw bq bf bo r.2.1 r.2.2.1 pl cu li ld fb r.2.2.2) (va_A (wH cJ b1 b0 bw bq bf bo w en pl cu li ld fb ou) sz) t) (va_A (wH cJ b1 b0 bw bq bf bo w en pl cu li ld fb ou) sz)) 1 6 (va_A (wH cJ b1 b0 bw bq bf bo w en pl cu li ld fb ou) sz) := by
  refine va_MetW (cc := cL_put) (maxL := 7) (ret := (some .int)) (hh := [(0, 12, 15, 13)]) (by decide) rfl ?_
  intro p e s m args below meth c s₁ B hml hv
  obtain ⟨rfl, ⟨hsz, hP, hK, hD0⟩, hN, hXs⟩ := hv
  have hx := B.exec
  have hb := B.bytes
  have hr := B.returns
  have hts := atoms_spec (ws := wsL_put) B.pre
  have hown : s.vm.findClass RL = some m.cls := findClass_of_methodNamed B.named
  have hlocks := B.notSynchronized
  have htab : c.exceptionTable.toList = [⟨0, 12, 15, 13⟩] := vx_table (x := yL_put) B (hts (.codeWith yL_put cL_put 7 (some .int) [(0, 12, 15, 13)]) (List.mem_cons_self))
  subst hsz
  have hD := hD0.self (sz := s.heap.size)
  generalize hAe : va_A (wH cJ b1 b0 bw bq bf bo w en pl cu li ld fb ou) s.heap.size = A at hD hXs ⊢
  have hA : ∀ q : Nat, s.heap.size ≤ q → A q := fun q h => by rw [← hAe]; exact Or.inr h
  have hS : va_S A s.heap s.heap [] := va_S.rf
  have hP : va_P (dC, dI) vwCl (wH cJ b1 b0 bw bq bf bo w en pl cu li ld fb ou) s.heap := hP
  have hl := lv_entry ([.ref b1, .int a1, .int a2, .long a3, .ref bo]) (n := 7) (Nat.le_of_ble_eq_true rfl)
  rw [lg_entry_eq]
  generalize (lg_sl ([.ref b1, .int a1, .int a2, .long a3, .ref bo]) ++ List.replicate (7 - (lg_sl ([.ref b1, .int a1, .int a2, .long a3, .ref bo])).length) Slot.unset).toArray = ls at hl ⊢
  have hl : lv_has ls 7 [(0, .ref b1), (1, .int a1), (2, .int a2), (3, .long a3), (5, .ref bo)] := hl
  clear hD0 hAe
  unfold j_L_put at hj
  refine lv_aload hx hb dL_put_0 (lv_at hl 4 rfl) ?_
  refine lv_iconst (v := (0 : Int32)) hx hb dL_put_2 (by decide) ?_
  refine lv_aload_n hx hb dL_put_3 rfl (lv_at hl 0 rfl) ?_
  refine lv_iload_n hx hb dL_put_4 rfl (lv_at hl 1 rfl) ?_
  refine lv_iload_n hx hb dL_put_5 rfl (lv_at hl 2 rfl) ?_
  refine lv_lload_n hx hb dL_put_6 rfl (lv_at hl 3 rfl) ?_
  obtain ⟨q, hc, hj⟩ := ja_bd hj
  rcases q with _ | ⟨v1, v2, v3⟩
  · try dsimp only at hj
    have hPc := hP.sub (ws' := (wC cJ b1 b0 bw bq bf w en pl cu li ld fb)) [0, 1, 2, 3, 4] rfl
    have hDc := hD.sub (ws' := (wC cJ b1 b0 bw bq bf w en pl cu li ld fb)) [0, 1, 2, 3, 4] (by decide) rfl
    have hFc := va_free (wc := (wC cJ b1 b0 bw bq bf w en pl cu li ld fb)) hD hS hA [0, 1, 2, 3, 4] rfl
    refine vx_calli (vx_runV (As := [.int a1, .int a2, .long a3]) (rest := [.int (0 : Int32), .ref bo]) ⟨hx, hb, hml, hown, hts⟩ (x_X1_put l hlt dC dI cI cJ b1 b0 bw bq bf s.heap.size w en pl cu li ld fb a1 a2 a3 hc) (cwV 3 hts gL_put_X1_put rfl rfl rfl (by decide +kernel) ⟨Nat.le_of_ble_eq_true rfl, Nat.le_of_ble_eq_true rfl⟩) ⟨fun a U g mk q => ⟨q.1, jPr.blind q.2.1, jNs.blind q.2.2.1, jXs.blind q.2.2.2⟩, va_recv hK hPc (ci := 1) (q0 := 0) rfl rfl, fun U hU hW => ⟨rfl, jPr.mk hU hW hPc hK hDc, jNs.warm hW hN, jXs.down hU hW hS hFc hXs⟩⟩ rfl rfl hl.1 rfl (lv_room (Nat.le_of_ble_eq_true rfl)) dL_put_7 ⟨Nat.le_of_ble_eq_true rfl, Nat.le_of_ble_eq_true rfl⟩) hS (fun q _ h => hFc q h) hFc (fun q _ h => hFc q h) (fun E ce q9 u t H1 locs ht hvm hpx hBX hz1 hk1 hS hce hcv hcl => ?_) (fun rr u t H1 locs1 ht hvm hw9 hB hz1 hk1 hS => hw9.elim)
    obtain ⟨rfl, hP1, hK1, hD1⟩ := hBX
    rw [ht] at hP1
    obtain ⟨hP, hD⟩ := va_join (wr := ([(bo, .inl (cJ, 1, .inr (.inl ou)))] : va_W)) (w1 := (wC cJ b1 b0 bw bq bf w en pl cu li ld fb)) hP hD [0, 1, 2, 3, 4] [5] rfl rfl (by decide) (by decide) hk1 hFc hP1 hD1
    replace hP := hP.sub (ws' := (wH cJ b1 b0 bw bq bf bo w en pl cu li ld fb ou)) [1, 2, 3, 4, 5, 0] rfl
    replace hD := hD.sub (ws' := (wH cJ b1 b0 bw bq bf bo w en pl cu li ld fb ou)) [1, 2, 3, 4, 5, 0] (by decide) rfl
    clear hk1 hP1 hK1 hD1 hvm hz1 hPc hDc hFc
    refine kx_catch (name := "java/lang/IllegalArgumentException") hown ⟨0, 12, 15, 13⟩ htab (by decide) (by decide) (hts (.classLink RL 13 "java/lang/IllegalArgumentException") (by decide +kernel)) (hXs.wA _ _ (List.mem_of_getElem? (i := 3) rfl)) hce hcv hcl ?_
    generalize H1 = H at hP hS ⊢
    have hP : va_P (dC, dI) vwCl (wH cJ b1 b0 bw bq bf bo w en pl cu li ld fb ou) H := hP
    have hD : va_D A (wH cJ b1 b0 bw bq bf bo w en pl cu li ld fb ou) := hD
    refine lv_astore (lv' := [(6, .ref q9), (0, .ref b1), (1, .int a1), (2, .int a2), (3, .long a3), (5, .ref bo)]) hx hb dL_put_15 hl (by decide) rfl (fun ls hl => ?_)
    refine lv_iconst (v := (1 : Int32)) hx hb dL_put_17 (by decide) ?_
    refine W.widen (k := 1) (n := 6) (by decide) (by decide) ?_
    have hr9 : ((1 : Int32), w, en, ou) = r := Option.some.inj hj
    subst hr9
    exact W.iret (v := (1 : Int32)) hx hb hr (fun t ht hW => ⟨⟨(1 : Int32), (), rfl, rfl, by rw [ht]; exact hP, va_K.moved hW.alike hK, hD⟩, hS.F ht⟩) hS.2.2 dL_put_18
  · try dsimp only at hj
    have hPc := hP.sub (ws' := (wC cJ b1 b0 bw bq bf w en pl cu li ld fb)) [0, 1, 2, 3, 4] rfl
    have hDc := hD.sub (ws' := (wC cJ b1 b0 bw bq bf w en pl cu li ld fb)) [0, 1, 2, 3, 4] (by decide) rfl
    have hFc := va_free (wc := (wC cJ b1 b0 bw bq bf w en pl cu li ld fb)) hD hS hA [0, 1, 2, 3, 4] rfl
    refine va_calli (va_runV (As := [.int a1, .int a2, .long a3]) (rest := [.int (0 : Int32), .ref bo]) ⟨hx, hb, hml, hown, hts⟩ (c_X1_put l dC dI cI cJ b1 b0 bw bq bf s.heap.size w en pl cu li ld fb a1 a2 a3 _ hc) (cwV 3 hts gL_put_X1_put rfl rfl rfl (by decide +kernel) ⟨Nat.le_of_ble_eq_true rfl, Nat.le_of_ble_eq_true rfl⟩) ⟨fun a U g mk q => ⟨q.1, jPr.blind q.2.1, jNs.blind q.2.2⟩, va_recv hK hPc (ci := 1) (q0 := 0) rfl rfl, fun U hU hW => ⟨rfl, jPr.mk hU hW hPc hK hDc, jNs.warm hW hN⟩⟩ rfl rfl hl.1 rfl (lv_room (Nat.le_of_ble_eq_true rfl)) dL_put_7 ⟨Nat.le_of_ble_eq_true rfl, Nat.le_of_ble_eq_true rfl⟩) hS (fun q _ h => hFc q h) hFc (fun rr u t H1 locs ht hvm hw9 hB hz1 hk1 hS => ?_)
    have hw8 : v1 = rr := hw9.symm
    subst hw8
    obtain ⟨hP1, hK1, hD1⟩ := hB
    rw [ht] at hP1
    obtain ⟨hP, hD⟩ := va_join (wr := ([(bo, .inl (cJ, 1, .inr (.inl ou)))] : va_W)) (w1 := (wC cJ b1 b0 bw bq bf v2 v3 pl cu li ld fb)) hP hD [0, 1, 2, 3, 4] [5] rfl rfl (by decide) (by decide) hk1 hFc hP1 hD1
    replace hP := hP.sub (ws' := (wH cJ b1 b0 bw bq bf bo v2 v3 pl cu li ld fb ou)) [1, 2, 3, 4, 5, 0] rfl
    replace hD := hD.sub (ws' := (wH cJ b1 b0 bw bq bf bo v2 v3 pl cu li ld fb ou)) [1, 2, 3, 4, 5, 0] (by decide) rfl
    clear hk1 hP1 hK1 hD1 hvm hz1 hPc hDc hFc
    generalize H1 = H at hP hS ⊢
    have hP : va_P (dC, dI) vwCl (wH cJ b1 b0 bw bq bf bo v2 v3 pl cu li ld fb ou) H := hP
    have hD : va_D A (wH cJ b1 b0 bw bq bf bo v2 v3 pl cu li ld fb ou) := hD
    refine lv_i2l hx hb dL_put_10 rfl ?_
    obtain ⟨hin, hj⟩ := ja_ix hj
    refine va_last hx hb hK hP hD hS 5 1 rfl rfl hin dL_put_11 (fun H locs hP hD hS => ?_)
    have hP : va_P (dC, dI) vwCl (wH cJ b1 b0 bw bq bf bo v2 v3 pl cu li ld fb (vp_updL ou (0 : Int32).toNatClampNeg v1.toInt64)) H := hP
    have hD : va_D A (wH cJ b1 b0 bw bq bf bo v2 v3 pl cu li ld fb (vp_updL ou (0 : Int32).toNatClampNeg v1.toInt64)) := hD
    refine lv_goto (tgt := 19) hx hb dL_put_12 (by decide) ?_
    refine lv_iconst (v := (0 : Int32)) hx hb dL_put_19 (by decide) ?_
    refine W.widen (k := 1) (n := 6) (by decide) (by decide) ?_
    have hr9 : ((0 : Int32), v2, v3, vp_updL ou (0 : Int32).toNatClampNeg v1.toInt64) = r := Option.some.inj hj
    subst hr9
    exact W.iret (v := (0 : Int32)) hx hb hr (fun t ht hW => ⟨⟨(0 : Int32), (), rfl, rfl, by rw [ht]; exact hP, va_K.moved hW.alike hK, hD⟩, hS.F ht⟩) hS.2.2 dL_put_20

def j_L_take (w : Nat → Int64) (en : Int32) (pl : Int32) (cu : Int32) (fb : Nat → Int64) (ou : Nat → Int64) (a1 : Int32) (a2 : Int32) : Option (Int32 × Int32 × Int32 × (Nat → Int64)) :=
  (j_X1_take w en pl cu fb a1 a2).bind fun q => match q with
    | none => some ((1 : Int32), pl, cu, ou)
    | some (v1, v2, v3) => (jix (0 : Int32) 1 (some ((0 : Int32), v2, v3, vp_updL ou (0 : Int32).toNatClampNeg v1)))
set_option maxHeartbeats 4000000 in
set_option maxRecDepth 100000 in
theorem c_L_take (l : Launch) (hlt : l.stackTraces = false) (dC : Nat → ClassId) (dI : Nat → Nat → Nat) (cI cJ : ClassId) (b1 : Nat) (b0 : Nat) (bw : Nat) (bq : Nat) (bf : Nat) (bo : Nat) (sz : Nat) (w : Nat → Int64) (en : Int32) (pl : Int32) (cu : Int32) (li : Nat → Int64) (ld : Int32) (fb : Nat → Int64) (ou : Nat → Int64) (a1 : Int32) (a2 : Int32) (r : Int32 × Int32 × Int32 × (Nat → Int64)) (hj : j_L_take w en pl cu fb ou a1 a2 = some r) : Met l yL_take wsL_take ({ frames := 8, cells := 1, slots := 6, locals := 180 } : Room) (va_Pc [.ref b1, .int a1, .int a2, .ref bo] (fun U => jPr dC dI cI cJ (wH cJ b1 b0 bw bq bf bo w en pl cu li ld fb ou) sz U ∧ jNs U ∧ jXs (va_A (wH cJ b1 b0 bw bq bf bo w en pl cu li ld fb ou) sz) U)) (va_Qi (fun (v : Int32) (_ : Unit) => v = r.1) (fun (_ : Unit) t => jPo dC dI cI cJ (wH cJ b1 b0 bw bq bf bo w en r.2.1 r.2.2.1 li ld fb r.2.2.2) (va_A (wH cJ b1 b0 bw bq bf bo w en pl cu li ld fb ou) sz) t) (va_A (wH cJ b1 b0 bw bq bf bo w en pl cu li ld fb ou) sz)) 1 6 (va_A (wH cJ b1 b0 bw bq bf bo w en pl cu li ld fb ou) sz) := by
  refine va_MetW (cc := cL_take) (maxL := 5) (ret := (some .int)) (hh := [(0, 9, 12, 13)]) (by decide) rfl ?_
  intro p e s m args below meth c s₁ B hml hv
  obtain ⟨rfl, ⟨hsz, hP, hK, hD0⟩, hN, hXs⟩ := hv
  have hx := B.exec
  have hb := B.bytes
  have hr := B.returns
  have hts := atoms_spec (ws := wsL_take) B.pre
  have hown : s.vm.findClass RL = some m.cls := findClass_of_methodNamed B.named
  have hlocks := B.notSynchronized
  have htab : c.exceptionTable.toList = [⟨0, 9, 12, 13⟩] := vx_table (x := yL_take) B (hts (.codeWith yL_take cL_take 5 (some .int) [(0, 9, 12, 13)]) (List.mem_cons_self))
  subst hsz
  have hD := hD0.self (sz := s.heap.size)
  generalize hAe : va_A (wH cJ b1 b0 bw bq bf bo w en pl cu li ld fb ou) s.heap.size = A at hD hXs ⊢
  have hA : ∀ q : Nat, s.heap.size ≤ q → A q := fun q h => by rw [← hAe]; exact Or.inr h
  have hS : va_S A s.heap s.heap [] := va_S.rf
  have hP : va_P (dC, dI) vwCl (wH cJ b1 b0 bw bq bf bo w en pl cu li ld fb ou) s.heap := hP
  have hl := lv_entry ([.ref b1, .int a1, .int a2, .ref bo]) (n := 5) (Nat.le_of_ble_eq_true rfl)
  rw [lg_entry_eq]
  generalize (lg_sl ([.ref b1, .int a1, .int a2, .ref bo]) ++ List.replicate (5 - (lg_sl ([.ref b1, .int a1, .int a2, .ref bo])).length) Slot.unset).toArray = ls at hl ⊢
  have hl : lv_has ls 5 [(0, .ref b1), (1, .int a1), (2, .int a2), (3, .ref bo)] := hl
  clear hD0 hAe
  unfold j_L_take at hj
  refine lv_aload_n hx hb dL_take_0 rfl (lv_at hl 3 rfl) ?_
  refine lv_iconst (v := (0 : Int32)) hx hb dL_take_1 (by decide) ?_
  refine lv_aload_n hx hb dL_take_2 rfl (lv_at hl 0 rfl) ?_
  refine lv_iload_n hx hb dL_take_3 rfl (lv_at hl 1 rfl) ?_
  refine lv_iload_n hx hb dL_take_4 rfl (lv_at hl 2 rfl) ?_
  obtain ⟨q, hc, hj⟩ := ja_bd hj
  rcases q with _ | ⟨v1, v2, v3⟩
  · try dsimp only at hj
    have hPc := hP.sub (ws' := (wC cJ b1 b0 bw bq bf w en pl cu li ld fb)) [0, 1, 2, 3, 4] rfl
    have hDc := hD.sub (ws' := (wC cJ b1 b0 bw bq bf w en pl cu li ld fb)) [0, 1, 2, 3, 4] (by decide) rfl
    have hFc := va_free (wc := (wC cJ b1 b0 bw bq bf w en pl cu li ld fb)) hD hS hA [0, 1, 2, 3, 4] rfl
    refine vx_calll (vx_runV (As := [.int a1, .int a2]) (rest := [.int (0 : Int32), .ref bo]) ⟨hx, hb, hml, hown, hts⟩ (x_X1_take l hlt dC dI cI cJ b1 b0 bw bq bf s.heap.size w en pl cu li ld fb a1 a2 hc) (cwV 2 hts gL_take_X1_take rfl rfl rfl (by decide +kernel) ⟨Nat.le_of_ble_eq_true rfl, Nat.le_of_ble_eq_true rfl⟩) ⟨fun a U g mk q => ⟨q.1, jPr.blind q.2.1, jNs.blind q.2.2.1, jXs.blind q.2.2.2⟩, va_recv hK hPc (ci := 1) (q0 := 0) rfl rfl, fun U hU hW => ⟨rfl, jPr.mk hU hW hPc hK hDc, jNs.warm hW hN, jXs.down hU hW hS hFc hXs⟩⟩ rfl rfl hl.1 rfl (lv_room (Nat.le_of_ble_eq_true rfl)) dL_take_5 ⟨Nat.le_of_ble_eq_true rfl, Nat.le_of_ble_eq_true rfl⟩) hS (fun q _ h => hFc q h) hFc (fun q _ h => hFc q h) (fun E ce q9 u t H1 locs ht hvm hpx hBX hz1 hk1 hS hce hcv hcl => ?_) (fun rr u t H1 locs1 ht hvm hw9 hB hz1 hk1 hS => hw9.elim)
    obtain ⟨rfl, hP1, hK1, hD1⟩ := hBX
    rw [ht] at hP1
    obtain ⟨hP, hD⟩ := va_join (wr := ([(bo, .inl (cJ, 1, .inr (.inl ou)))] : va_W)) (w1 := (wC cJ b1 b0 bw bq bf w en pl cu li ld fb)) hP hD [0, 1, 2, 3, 4] [5] rfl rfl (by decide) (by decide) hk1 hFc hP1 hD1
    replace hP := hP.sub (ws' := (wH cJ b1 b0 bw bq bf bo w en pl cu li ld fb ou)) [1, 2, 3, 4, 5, 0] rfl
    replace hD := hD.sub (ws' := (wH cJ b1 b0 bw bq bf bo w en pl cu li ld fb ou)) [1, 2, 3, 4, 5, 0] (by decide) rfl
    clear hk1 hP1 hK1 hD1 hvm hz1 hPc hDc hFc
    refine kx_catch (name := "java/lang/IllegalArgumentException") hown ⟨0, 9, 12, 13⟩ htab (by decide) (by decide) (hts (.classLink RL 13 "java/lang/IllegalArgumentException") (by decide +kernel)) (hXs.wA _ _ (List.mem_of_getElem? (i := 3) rfl)) hce hcv hcl ?_
    generalize H1 = H at hP hS ⊢
    have hP : va_P (dC, dI) vwCl (wH cJ b1 b0 bw bq bf bo w en pl cu li ld fb ou) H := hP
    have hD : va_D A (wH cJ b1 b0 bw bq bf bo w en pl cu li ld fb ou) := hD
    refine lv_astore (lv' := [(4, .ref q9), (0, .ref b1), (1, .int a1), (2, .int a2), (3, .ref bo)]) hx hb dL_take_12 hl (by decide) rfl (fun ls hl => ?_)
    refine lv_iconst (v := (1 : Int32)) hx hb dL_take_14 (by decide) ?_
    refine W.widen (k := 1) (n := 6) (by decide) (by decide) ?_
    have hr9 : ((1 : Int32), pl, cu, ou) = r := Option.some.inj hj
    subst hr9
    exact W.iret (v := (1 : Int32)) hx hb hr (fun t ht hW => ⟨⟨(1 : Int32), (), rfl, rfl, by rw [ht]; exact hP, va_K.moved hW.alike hK, hD⟩, hS.F ht⟩) hS.2.2 dL_take_15
  · try dsimp only at hj
    have hPc := hP.sub (ws' := (wC cJ b1 b0 bw bq bf w en pl cu li ld fb)) [0, 1, 2, 3, 4] rfl
    have hDc := hD.sub (ws' := (wC cJ b1 b0 bw bq bf w en pl cu li ld fb)) [0, 1, 2, 3, 4] (by decide) rfl
    have hFc := va_free (wc := (wC cJ b1 b0 bw bq bf w en pl cu li ld fb)) hD hS hA [0, 1, 2, 3, 4] rfl
    refine va_calll (va_runV (As := [.int a1, .int a2]) (rest := [.int (0 : Int32), .ref bo]) ⟨hx, hb, hml, hown, hts⟩ (c_X1_take l dC dI cI cJ b1 b0 bw bq bf s.heap.size w en pl cu li ld fb a1 a2 _ hc) (cwV 2 hts gL_take_X1_take rfl rfl rfl (by decide +kernel) ⟨Nat.le_of_ble_eq_true rfl, Nat.le_of_ble_eq_true rfl⟩) ⟨fun a U g mk q => ⟨q.1, jPr.blind q.2.1, jNs.blind q.2.2⟩, va_recv hK hPc (ci := 1) (q0 := 0) rfl rfl, fun U hU hW => ⟨rfl, jPr.mk hU hW hPc hK hDc, jNs.warm hW hN⟩⟩ rfl rfl hl.1 rfl (lv_room (Nat.le_of_ble_eq_true rfl)) dL_take_5 ⟨Nat.le_of_ble_eq_true rfl, Nat.le_of_ble_eq_true rfl⟩) hS (fun q _ h => hFc q h) hFc (fun rr u t H1 locs ht hvm hw9 hB hz1 hk1 hS => ?_)
    have hw8 : v1 = rr := hw9.symm
    subst hw8
    obtain ⟨hP1, hK1, hD1⟩ := hB
    rw [ht] at hP1
    obtain ⟨hP, hD⟩ := va_join (wr := ([(bo, .inl (cJ, 1, .inr (.inl ou)))] : va_W)) (w1 := (wC cJ b1 b0 bw bq bf w en v2 v3 li ld fb)) hP hD [0, 1, 2, 3, 4] [5] rfl rfl (by decide) (by decide) hk1 hFc hP1 hD1
    replace hP := hP.sub (ws' := (wH cJ b1 b0 bw bq bf bo w en v2 v3 li ld fb ou)) [1, 2, 3, 4, 5, 0] rfl
    replace hD := hD.sub (ws' := (wH cJ b1 b0 bw bq bf bo w en v2 v3 li ld fb ou)) [1, 2, 3, 4, 5, 0] (by decide) rfl
    clear hk1 hP1 hK1 hD1 hvm hz1 hPc hDc hFc
    generalize H1 = H at hP hS ⊢
    have hP : va_P (dC, dI) vwCl (wH cJ b1 b0 bw bq bf bo w en v2 v3 li ld fb ou) H := hP
    have hD : va_D A (wH cJ b1 b0 bw bq bf bo w en v2 v3 li ld fb ou) := hD
    obtain ⟨hin, hj⟩ := ja_ix hj
    refine va_last hx hb hK hP hD hS 5 1 rfl rfl hin dL_take_8 (fun H locs hP hD hS => ?_)
    have hP : va_P (dC, dI) vwCl (wH cJ b1 b0 bw bq bf bo w en v2 v3 li ld fb (vp_updL ou (0 : Int32).toNatClampNeg v1)) H := hP
    have hD : va_D A (wH cJ b1 b0 bw bq bf bo w en v2 v3 li ld fb (vp_updL ou (0 : Int32).toNatClampNeg v1)) := hD
    refine lv_goto (tgt := 16) hx hb dL_take_9 (by decide) ?_
    refine lv_iconst (v := (0 : Int32)) hx hb dL_take_16 (by decide) ?_
    refine W.widen (k := 1) (n := 6) (by decide) (by decide) ?_
    have hr9 : ((0 : Int32), v2, v3, vp_updL ou (0 : Int32).toNatClampNeg v1) = r := Option.some.inj hj
    subst hr9
    exact W.iret (v := (0 : Int32)) hx hb hr (fun t ht hW => ⟨⟨(0 : Int32), (), rfl, rfl, by rw [ht]; exact hP, va_K.moved hW.alike hK, hD⟩, hS.F ht⟩) hS.2.2 dL_take_17

def j_L_push (w : Nat → Int64) (en : Int32) (ou : Nat → Int64) (a1 : Int64) (a2 : Int32) : Option (Int32 × (Nat → Int64) × Int32 × (Nat → Int64)) :=
  (j_X1_push w en a1 a2).bind fun q => match q with
    | none => some ((1 : Int32), w, en, ou)
    | some (v1, v2, v3) => (jix (0 : Int32) 1 (some ((0 : Int32), v2, v3, vp_updL ou (0 : Int32).toNatClampNeg v1.toInt64)))
set_option maxHeartbeats 4000000 in
set_option maxRecDepth 100000 in
theorem c_L_push (l : Launch) (hlt : l.stackTraces = false) (dC : Nat → ClassId) (dI : Nat → Nat → Nat) (cI cJ : ClassId) (b1 : Nat) (b0 : Nat) (bw : Nat) (bq : Nat) (bf : Nat) (bo : Nat) (sz : Nat) (w : Nat → Int64) (en : Int32) (pl : Int32) (cu : Int32) (li : Nat → Int64) (ld : Int32) (fb : Nat → Int64) (ou : Nat → Int64) (a1 : Int64) (a2 : Int32) (r : Int32 × (Nat → Int64) × Int32 × (Nat → Int64)) (hj : j_L_push w en ou a1 a2 = some r) : Met l yL_push wsL_push ({ frames := 7, cells := 1, slots := 6, locals := 105 } : Room) (va_Pc [.ref b1, .long a1, .int a2, .ref bo] (fun U => jPr dC dI cI cJ (wH cJ b1 b0 bw bq bf bo w en pl cu li ld fb ou) sz U ∧ jNs U ∧ jXs (va_A (wH cJ b1 b0 bw bq bf bo w en pl cu li ld fb ou) sz) U)) (va_Qi (fun (v : Int32) (_ : Unit) => v = r.1) (fun (_ : Unit) t => jPo dC dI cI cJ (wH cJ b1 b0 bw bq bf bo r.2.1 r.2.2.1 pl cu li ld fb r.2.2.2) (va_A (wH cJ b1 b0 bw bq bf bo w en pl cu li ld fb ou) sz) t) (va_A (wH cJ b1 b0 bw bq bf bo w en pl cu li ld fb ou) sz)) 1 6 (va_A (wH cJ b1 b0 bw bq bf bo w en pl cu li ld fb ou) sz) := by
  refine va_MetW (cc := cL_push) (maxL := 6) (ret := (some .int)) (hh := [(0, 11, 14, 13)]) (by decide) rfl ?_
  intro p e s m args below meth c s₁ B hml hv
  obtain ⟨rfl, ⟨hsz, hP, hK, hD0⟩, hN, hXs⟩ := hv
  have hx := B.exec
  have hb := B.bytes
  have hr := B.returns
  have hts := atoms_spec (ws := wsL_push) B.pre
  have hown : s.vm.findClass RL = some m.cls := findClass_of_methodNamed B.named
  have hlocks := B.notSynchronized
  have htab : c.exceptionTable.toList = [⟨0, 11, 14, 13⟩] := vx_table (x := yL_push) B (hts (.codeWith yL_push cL_push 6 (some .int) [(0, 11, 14, 13)]) (List.mem_cons_self))
  subst hsz
  have hD := hD0.self (sz := s.heap.size)
  generalize hAe : va_A (wH cJ b1 b0 bw bq bf bo w en pl cu li ld fb ou) s.heap.size = A at hD hXs ⊢
  have hA : ∀ q : Nat, s.heap.size ≤ q → A q := fun q h => by rw [← hAe]; exact Or.inr h
  have hS : va_S A s.heap s.heap [] := va_S.rf
  have hP : va_P (dC, dI) vwCl (wH cJ b1 b0 bw bq bf bo w en pl cu li ld fb ou) s.heap := hP
  have hl := lv_entry ([.ref b1, .long a1, .int a2, .ref bo]) (n := 6) (Nat.le_of_ble_eq_true rfl)
  rw [lg_entry_eq]
  generalize (lg_sl ([.ref b1, .long a1, .int a2, .ref bo]) ++ List.replicate (6 - (lg_sl ([.ref b1, .long a1, .int a2, .ref bo])).length) Slot.unset).toArray = ls at hl ⊢
  have hl : lv_has ls 6 [(0, .ref b1), (1, .long a1), (3, .int a2), (4, .ref bo)] := hl
  clear hD0 hAe
  unfold j_L_push at hj
  refine lv_aload hx hb dL_push_0 (lv_at hl 3 rfl) ?_
  refine lv_iconst (v := (0 : Int32)) hx hb dL_push_2 (by decide) ?_
  refine lv_aload_n hx hb dL_push_3 rfl (lv_at hl 0 rfl) ?_
  refine lv_lload_n hx hb dL_push_4 rfl (lv_at hl 1 rfl) ?_
  refine lv_iload_n hx hb dL_push_5 rfl (lv_at hl 2 rfl) ?_
  obtain ⟨q, hc, hj⟩ := ja_bd hj
  rcases q with _ | ⟨v1, v2, v3⟩
  · try dsimp only at hj
    have hPc := hP.sub (ws' := (wC cJ b1 b0 bw bq bf w en pl cu li ld fb)) [0, 1, 2, 3, 4] rfl
    have hDc := hD.sub (ws' := (wC cJ b1 b0 bw bq bf w en pl cu li ld fb)) [0, 1, 2, 3, 4] (by decide) rfl
    have hFc := va_free (wc := (wC cJ b1 b0 bw bq bf w en pl cu li ld fb)) hD hS hA [0, 1, 2, 3, 4] rfl
    refine vx_calli (vx_runV (As := [.long a1, .int a2]) (rest := [.int (0 : Int32), .ref bo]) ⟨hx, hb, hml, hown, hts⟩ (x_X1_push l hlt dC dI cI cJ b1 b0 bw bq bf s.heap.size w en pl cu li ld fb a1 a2 hc) (cwV 2 hts gL_push_X1_push rfl rfl rfl (by decide +kernel) ⟨Nat.le_of_ble_eq_true rfl, Nat.le_of_ble_eq_true rfl⟩) ⟨fun a U g mk q => ⟨q.1, jPr.blind q.2.1, jNs.blind q.2.2.1, jXs.blind q.2.2.2⟩, va_recv hK hPc (ci := 1) (q0 := 0) rfl rfl, fun U hU hW => ⟨rfl, jPr.mk hU hW hPc hK hDc, jNs.warm hW hN, jXs.down hU hW hS hFc hXs⟩⟩ rfl rfl hl.1 rfl (lv_room (Nat.le_of_ble_eq_true rfl)) dL_push_6 ⟨Nat.le_of_ble_eq_true rfl, Nat.le_of_ble_eq_true rfl⟩) hS (fun q _ h => hFc q h) hFc (fun q _ h => hFc q h) (fun E ce q9 u t H1 locs ht hvm hpx hBX hz1 hk1 hS hce hcv hcl => ?_) (fun rr u t H1 locs1 ht hvm hw9 hB hz1 hk1 hS => hw9.elim)
    obtain ⟨rfl, hP1, hK1, hD1⟩ := hBX
    rw [ht] at hP1
    obtain ⟨hP, hD⟩ := va_join (wr := ([(bo, .inl (cJ, 1, .inr (.inl ou)))] : va_W)) (w1 := (wC cJ b1 b0 bw bq bf w en pl cu li ld fb)) hP hD [0, 1, 2, 3, 4] [5] rfl rfl (by decide) (by decide) hk1 hFc hP1 hD1
    replace hP := hP.sub (ws' := (wH cJ b1 b0 bw bq bf bo w en pl cu li ld fb ou)) [1, 2, 3, 4, 5, 0] rfl
    replace hD := hD.sub (ws' := (wH cJ b1 b0 bw bq bf bo w en pl cu li ld fb ou)) [1, 2, 3, 4, 5, 0] (by decide) rfl
    clear hk1 hP1 hK1 hD1 hvm hz1 hPc hDc hFc
    refine kx_catch (name := "java/lang/IllegalArgumentException") hown ⟨0, 11, 14, 13⟩ htab (by decide) (by decide) (hts (.classLink RL 13 "java/lang/IllegalArgumentException") (by decide +kernel)) (hXs.wA _ _ (List.mem_of_getElem? (i := 3) rfl)) hce hcv hcl ?_
    generalize H1 = H at hP hS ⊢
    have hP : va_P (dC, dI) vwCl (wH cJ b1 b0 bw bq bf bo w en pl cu li ld fb ou) H := hP
    have hD : va_D A (wH cJ b1 b0 bw bq bf bo w en pl cu li ld fb ou) := hD
    refine lv_astore (lv' := [(5, .ref q9), (0, .ref b1), (1, .long a1), (3, .int a2), (4, .ref bo)]) hx hb dL_push_14 hl (by decide) rfl (fun ls hl => ?_)
    refine lv_iconst (v := (1 : Int32)) hx hb dL_push_16 (by decide) ?_
    refine W.widen (k := 1) (n := 6) (by decide) (by decide) ?_
    have hr9 : ((1 : Int32), w, en, ou) = r := Option.some.inj hj
    subst hr9
    exact W.iret (v := (1 : Int32)) hx hb hr (fun t ht hW => ⟨⟨(1 : Int32), (), rfl, rfl, by rw [ht]; exact hP, va_K.moved hW.alike hK, hD⟩, hS.F ht⟩) hS.2.2 dL_push_17
  · try dsimp only at hj
    have hPc := hP.sub (ws' := (wC cJ b1 b0 bw bq bf w en pl cu li ld fb)) [0, 1, 2, 3, 4] rfl
    have hDc := hD.sub (ws' := (wC cJ b1 b0 bw bq bf w en pl cu li ld fb)) [0, 1, 2, 3, 4] (by decide) rfl
    have hFc := va_free (wc := (wC cJ b1 b0 bw bq bf w en pl cu li ld fb)) hD hS hA [0, 1, 2, 3, 4] rfl
    refine va_calli (va_runV (As := [.long a1, .int a2]) (rest := [.int (0 : Int32), .ref bo]) ⟨hx, hb, hml, hown, hts⟩ (c_X1_push l dC dI cI cJ b1 b0 bw bq bf s.heap.size w en pl cu li ld fb a1 a2 _ hc) (cwV 2 hts gL_push_X1_push rfl rfl rfl (by decide +kernel) ⟨Nat.le_of_ble_eq_true rfl, Nat.le_of_ble_eq_true rfl⟩) ⟨fun a U g mk q => ⟨q.1, jPr.blind q.2.1, jNs.blind q.2.2⟩, va_recv hK hPc (ci := 1) (q0 := 0) rfl rfl, fun U hU hW => ⟨rfl, jPr.mk hU hW hPc hK hDc, jNs.warm hW hN⟩⟩ rfl rfl hl.1 rfl (lv_room (Nat.le_of_ble_eq_true rfl)) dL_push_6 ⟨Nat.le_of_ble_eq_true rfl, Nat.le_of_ble_eq_true rfl⟩) hS (fun q _ h => hFc q h) hFc (fun rr u t H1 locs ht hvm hw9 hB hz1 hk1 hS => ?_)
    have hw8 : v1 = rr := hw9.symm
    subst hw8
    obtain ⟨hP1, hK1, hD1⟩ := hB
    rw [ht] at hP1
    obtain ⟨hP, hD⟩ := va_join (wr := ([(bo, .inl (cJ, 1, .inr (.inl ou)))] : va_W)) (w1 := (wC cJ b1 b0 bw bq bf v2 v3 pl cu li ld fb)) hP hD [0, 1, 2, 3, 4] [5] rfl rfl (by decide) (by decide) hk1 hFc hP1 hD1
    replace hP := hP.sub (ws' := (wH cJ b1 b0 bw bq bf bo v2 v3 pl cu li ld fb ou)) [1, 2, 3, 4, 5, 0] rfl
    replace hD := hD.sub (ws' := (wH cJ b1 b0 bw bq bf bo v2 v3 pl cu li ld fb ou)) [1, 2, 3, 4, 5, 0] (by decide) rfl
    clear hk1 hP1 hK1 hD1 hvm hz1 hPc hDc hFc
    generalize H1 = H at hP hS ⊢
    have hP : va_P (dC, dI) vwCl (wH cJ b1 b0 bw bq bf bo v2 v3 pl cu li ld fb ou) H := hP
    have hD : va_D A (wH cJ b1 b0 bw bq bf bo v2 v3 pl cu li ld fb ou) := hD
    refine lv_i2l hx hb dL_push_9 rfl ?_
    obtain ⟨hin, hj⟩ := ja_ix hj
    refine va_last hx hb hK hP hD hS 5 1 rfl rfl hin dL_push_10 (fun H locs hP hD hS => ?_)
    have hP : va_P (dC, dI) vwCl (wH cJ b1 b0 bw bq bf bo v2 v3 pl cu li ld fb (vp_updL ou (0 : Int32).toNatClampNeg v1.toInt64)) H := hP
    have hD : va_D A (wH cJ b1 b0 bw bq bf bo v2 v3 pl cu li ld fb (vp_updL ou (0 : Int32).toNatClampNeg v1.toInt64)) := hD
    refine lv_goto (tgt := 18) hx hb dL_push_11 (by decide) ?_
    refine lv_iconst (v := (0 : Int32)) hx hb dL_push_18 (by decide) ?_
    refine W.widen (k := 1) (n := 6) (by decide) (by decide) ?_
    have hr9 : ((0 : Int32), v2, v3, vp_updL ou (0 : Int32).toNatClampNeg v1.toInt64) = r := Option.some.inj hj
    subst hr9
    exact W.iret (v := (0 : Int32)) hx hb hr (fun t ht hW => ⟨⟨(0 : Int32), (), rfl, rfl, by rw [ht]; exact hP, va_K.moved hW.alike hK, hD⟩, hS.F ht⟩) hS.2.2 dL_push_19

def j_L_seek (en : Int32) (pl : Int32) (a1 : Int32) : Option (Int32 × Int32) :=
  (j_X1_seek en pl a1).bind fun q => match q with
    | none => some ((1 : Int32), pl)
    | some v1 => (some ((0 : Int32), v1))
set_option maxHeartbeats 4000000 in
set_option maxRecDepth 100000 in
theorem c_L_seek (l : Launch) (hlt : l.stackTraces = false) (dC : Nat → ClassId) (dI : Nat → Nat → Nat) (cI cJ : ClassId) (b1 : Nat) (b0 : Nat) (bw : Nat) (bq : Nat) (bf : Nat) (sz : Nat) (w : Nat → Int64) (en : Int32) (pl : Int32) (cu : Int32) (li : Nat → Int64) (ld : Int32) (fb : Nat → Int64) (a1 : Int32) (r : Int32 × Int32) (hj : j_L_seek en pl a1 = some r) : Met l yL_seek wsL_seek ({ frames := 7, cells := 1, slots := 6, locals := 103 } : Room) (va_Pc [.ref b1, .int a1] (fun U => jPr dC dI cI cJ (wC cJ b1 b0 bw bq bf w en pl cu li ld fb) sz U ∧ jNs U ∧ jXs (va_A (wC cJ b1 b0 bw bq bf w en pl cu li ld fb) sz) U)) (va_Qi (fun (v : Int32) (_ : Unit) => v = r.1) (fun (_ : Unit) t => jPo dC dI cI cJ (wC cJ b1 b0 bw bq bf w en r.2 cu li ld fb) (va_A (wC cJ b1 b0 bw bq bf w en pl cu li ld fb) sz) t) (va_A (wC cJ b1 b0 bw bq bf w en pl cu li ld fb) sz)) 1 6 (va_A (wC cJ b1 b0 bw bq bf w en pl cu li ld fb) sz) := by
  refine va_MetW (cc := cL_seek) (maxL := 3) (ret := (some .int)) (hh := [(0, 5, 8, 31)]) (by decide) rfl ?_
  intro p e s m args below meth c s₁ B hml hv
  obtain ⟨rfl, ⟨hsz, hP, hK, hD0⟩, hN, hXs⟩ := hv
  have hx := B.exec
  have hb := B.bytes
  have hr := B.returns
  have hts := atoms_spec (ws := wsL_seek) B.pre
  have hown : s.vm.findClass RL = some m.cls := findClass_of_methodNamed B.named
  have hlocks := B.notSynchronized
  have htab : c.exceptionTable.toList = [⟨0, 5, 8, 31⟩] := vx_table (x := yL_seek) B (hts (.codeWith yL_seek cL_seek 3 (some .int) [(0, 5, 8, 31)]) (List.mem_cons_self))
  subst hsz
  have hD := hD0.self (sz := s.heap.size)
  generalize hAe : va_A (wC cJ b1 b0 bw bq bf w en pl cu li ld fb) s.heap.size = A at hD hXs ⊢
  have hA : ∀ q : Nat, s.heap.size ≤ q → A q := fun q h => by rw [← hAe]; exact Or.inr h
  have hS : va_S A s.heap s.heap [] := va_S.rf
  have hP : va_P (dC, dI) vwCl (wC cJ b1 b0 bw bq bf w en pl cu li ld fb) s.heap := hP
  have hl := lv_entry ([.ref b1, .int a1]) (n := 3) (Nat.le_of_ble_eq_true rfl)
  rw [lg_entry_eq]
  generalize (lg_sl ([.ref b1, .int a1]) ++ List.replicate (3 - (lg_sl ([.ref b1, .int a1])).length) Slot.unset).toArray = ls at hl ⊢
  have hl : lv_has ls 3 [(0, .ref b1), (1, .int a1)] := hl
  clear hD0 hAe
  unfold j_L_seek at hj
  refine lv_aload_n hx hb dL_seek_0 rfl (lv_at hl 0 rfl) ?_
  refine lv_iload_n hx hb dL_seek_1 rfl (lv_at hl 1 rfl) ?_
  obtain ⟨q, hc, hj⟩ := ja_bd hj
  rcases q with _ | v1
  · try dsimp only at hj
    have hPc := hP.sub (ws' := (wC cJ b1 b0 bw bq bf w en pl cu li ld fb)) [0, 1, 2, 3, 4] rfl
    have hDc := hD.sub (ws' := (wC cJ b1 b0 bw bq bf w en pl cu li ld fb)) [0, 1, 2, 3, 4] (by decide) rfl
    have hFc := va_free (wc := (wC cJ b1 b0 bw bq bf w en pl cu li ld fb)) hD hS hA [0, 1, 2, 3, 4] rfl
    refine vx_callv (vx_runV (As := [.int a1]) (rest := []) ⟨hx, hb, hml, hown, hts⟩ (x_X1_seek l hlt dC dI cI cJ b1 b0 bw bq bf s.heap.size w en pl cu li ld fb a1 hc) (cwV 1 hts gL_seek_X1_seek rfl rfl rfl (by decide +kernel) ⟨Nat.le_of_ble_eq_true rfl, Nat.le_of_ble_eq_true rfl⟩) ⟨fun a U g mk q => ⟨q.1, jPr.blind q.2.1, jNs.blind q.2.2.1, jXs.blind q.2.2.2⟩, va_recv hK hPc (ci := 1) (q0 := 0) rfl rfl, fun U hU hW => ⟨rfl, jPr.mk hU hW hPc hK hDc, jNs.warm hW hN, jXs.down hU hW hS hFc hXs⟩⟩ rfl rfl hl.1 rfl (lv_room (Nat.le_of_ble_eq_true rfl)) dL_seek_2 ⟨Nat.le_of_ble_eq_true rfl, Nat.le_of_ble_eq_true rfl⟩) hS (fun q _ h => hFc q h) hFc (fun q _ h => hFc q h) (fun E ce q9 u t H1 locs ht hvm hpx hBX hz1 hk1 hS hce hcv hcl => ?_) (fun u t H1 locs1 ht hvm hw9 hB hz1 hk1 hS => hw9.elim)
    obtain ⟨rfl, hP1, hK1, hD1⟩ := hBX
    rw [ht] at hP1
    obtain ⟨hP, hD⟩ := va_join (wr := ([] : va_W)) (w1 := (wC cJ b1 b0 bw bq bf w en pl cu li ld fb)) hP hD [0, 1, 2, 3, 4] [] rfl rfl (by decide) (by decide) hk1 hFc hP1 hD1
    clear hk1 hP1 hK1 hD1 hvm hz1 hPc hDc hFc
    refine kx_catch (name := "java/lang/IndexOutOfBoundsException") hown ⟨0, 5, 8, 31⟩ htab (by decide) (by decide) (hts (.classLink RL 31 "java/lang/IndexOutOfBoundsException") (by decide +kernel)) (hXs.wB _ _ (List.mem_of_getElem? (i := 3) rfl)) hce hcv hcl ?_
    generalize H1 = H at hP hS ⊢
    have hP : va_P (dC, dI) vwCl (wC cJ b1 b0 bw bq bf w en pl cu li ld fb) H := hP
    have hD : va_D A (wC cJ b1 b0 bw bq bf w en pl cu li ld fb) := hD
    refine lv_astore_n (lv' := [(2, .ref q9), (0, .ref b1), (1, .int a1)]) hx hb dL_seek_8 rfl hl (by decide) rfl (fun ls hl => ?_)
    refine lv_iconst (v := (1 : Int32)) hx hb dL_seek_9 (by decide) ?_
    refine W.widen (k := 1) (n := 6) (by decide) (by decide) ?_
    have hr9 : ((1 : Int32), pl) = r := Option.some.inj hj
    subst hr9
    exact W.iret (v := (1 : Int32)) hx hb hr (fun t ht hW => ⟨⟨(1 : Int32), (), rfl, rfl, by rw [ht]; exact hP, va_K.moved hW.alike hK, hD⟩, hS.F ht⟩) hS.2.2 dL_seek_10
  · try dsimp only at hj
    have hPc := hP.sub (ws' := (wC cJ b1 b0 bw bq bf w en pl cu li ld fb)) [0, 1, 2, 3, 4] rfl
    have hDc := hD.sub (ws' := (wC cJ b1 b0 bw bq bf w en pl cu li ld fb)) [0, 1, 2, 3, 4] (by decide) rfl
    have hFc := va_free (wc := (wC cJ b1 b0 bw bq bf w en pl cu li ld fb)) hD hS hA [0, 1, 2, 3, 4] rfl
    refine va_callv (va_runV (As := [.int a1]) (rest := []) ⟨hx, hb, hml, hown, hts⟩ (c_X1_seek l dC dI cI cJ b1 b0 bw bq bf s.heap.size w en pl cu li ld fb a1 _ hc) (cwV 1 hts gL_seek_X1_seek rfl rfl rfl (by decide +kernel) ⟨Nat.le_of_ble_eq_true rfl, Nat.le_of_ble_eq_true rfl⟩) ⟨fun a U g mk q => ⟨q.1, jPr.blind q.2.1, jNs.blind q.2.2⟩, va_recv hK hPc (ci := 1) (q0 := 0) rfl rfl, fun U hU hW => ⟨rfl, jPr.mk hU hW hPc hK hDc, jNs.warm hW hN⟩⟩ rfl rfl hl.1 rfl (lv_room (Nat.le_of_ble_eq_true rfl)) dL_seek_2 ⟨Nat.le_of_ble_eq_true rfl, Nat.le_of_ble_eq_true rfl⟩) hS (fun q _ h => hFc q h) hFc (fun u t H1 locs ht hvm hw9 hB hz1 hk1 hS => ?_)
    obtain ⟨hP1, hK1, hD1⟩ := hB
    rw [ht] at hP1
    obtain ⟨hP, hD⟩ := va_join (wr := ([] : va_W)) (w1 := (wC cJ b1 b0 bw bq bf w en v1 cu li ld fb)) hP hD [0, 1, 2, 3, 4] [] rfl rfl (by decide) (by decide) hk1 hFc hP1 hD1
    clear hk1 hP1 hK1 hD1 hvm hz1 hPc hDc hFc
    generalize H1 = H at hP hS ⊢
    have hP : va_P (dC, dI) vwCl (wC cJ b1 b0 bw bq bf w en v1 cu li ld fb) H := hP
    have hD : va_D A (wC cJ b1 b0 bw bq bf w en v1 cu li ld fb) := hD
    refine lv_goto (tgt := 11) hx hb dL_seek_5 (by decide) ?_
    refine lv_iconst (v := (0 : Int32)) hx hb dL_seek_11 (by decide) ?_
    refine W.widen (k := 1) (n := 6) (by decide) (by decide) ?_
    have hr9 : ((0 : Int32), v1) = r := Option.some.inj hj
    subst hr9
    exact W.iret (v := (0 : Int32)) hx hb hr (fun t ht hW => ⟨⟨(0 : Int32), (), rfl, rfl, by rw [ht]; exact hP, va_K.moved hW.alike hK, hD⟩, hS.F ht⟩) hS.2.2 dL_seek_12

def j_L_add (li : Nat → Int64) (ld : Int32) (ou : Nat → Int64) (a1 : Int64) : Option (Int32 × (Nat → Int64) × Int32 × (Nat → Int64)) :=
  (j_X1_add li ld a1).bind fun q => match q with
    | none => some ((1 : Int32), li, ld, ou)
    | some (v1, v2, v3) => (jix (0 : Int32) 1 (some ((0 : Int32), v2, v3, vp_updL ou (0 : Int32).toNatClampNeg v1.toInt64)))
set_option maxHeartbeats 4000000 in
set_option maxRecDepth 100000 in
theorem c_L_add (l : Launch) (hlt : l.stackTraces = false) (dC : Nat → ClassId) (dI : Nat → Nat → Nat) (cI cJ : ClassId) (b1 : Nat) (b0 : Nat) (bw : Nat) (bq : Nat) (bf : Nat) (bo : Nat) (sz : Nat) (w : Nat → Int64) (en : Int32) (pl : Int32) (cu : Int32) (li : Nat → Int64) (ld : Int32) (fb : Nat → Int64) (ou : Nat → Int64) (a1 : Int64) (r : Int32 × (Nat → Int64) × Int32 × (Nat → Int64)) (hj : j_L_add li ld ou a1 = some r) : Met l yL_add wsL_add ({ frames := 8, cells := 1, slots := 6, locals := 125 } : Room) (va_Pc [.ref b1, .long a1, .ref bo] (fun U => jPr dC dI cI cJ (wH cJ b1 b0 bw bq bf bo w en pl cu li ld fb ou) sz U ∧ jNs U ∧ jXs (va_A (wH cJ b1 b0 bw bq bf bo w en pl cu li ld fb ou) sz) U)) (va_Qi (fun (v : Int32) (_ : Unit) => v = r.1) (fun (_ : Unit) t => jPo dC dI cI cJ (wH cJ b1 b0 bw bq bf bo w en pl cu r.2.1 r.2.2.1 fb r.2.2.2) (va_A (wH cJ b1 b0 bw bq bf bo w en pl cu li ld fb ou) sz) t) (va_A (wH cJ b1 b0 bw bq bf bo w en pl cu li ld fb ou) sz)) 1 6 (va_A (wH cJ b1 b0 bw bq bf bo w en pl cu li ld fb ou) sz) := by
  refine va_MetW (cc := cL_add) (maxL := 5) (ret := (some .int)) (hh := [(0, 9, 12, 13)]) (by decide) rfl ?_
  intro p e s m args below meth c s₁ B hml hv
  obtain ⟨rfl, ⟨hsz, hP, hK, hD0⟩, hN, hXs⟩ := hv
  have hx := B.exec
  have hb := B.bytes
  have hr := B.returns
  have hts := atoms_spec (ws := wsL_add) B.pre
  have hown : s.vm.findClass RL = some m.cls := findClass_of_methodNamed B.named
  have hlocks := B.notSynchronized
  have htab : c.exceptionTable.toList = [⟨0, 9, 12, 13⟩] := vx_table (x := yL_add) B (hts (.codeWith yL_add cL_add 5 (some .int) [(0, 9, 12, 13)]) (List.mem_cons_self))
  subst hsz
  have hD := hD0.self (sz := s.heap.size)
  generalize hAe : va_A (wH cJ b1 b0 bw bq bf bo w en pl cu li ld fb ou) s.heap.size = A at hD hXs ⊢
  have hA : ∀ q : Nat, s.heap.size ≤ q → A q := fun q h => by rw [← hAe]; exact Or.inr h
  have hS : va_S A s.heap s.heap [] := va_S.rf
  have hP : va_P (dC, dI) vwCl (wH cJ b1 b0 bw bq bf bo w en pl cu li ld fb ou) s.heap := hP
  have hl := lv_entry ([.ref b1, .long a1, .ref bo]) (n := 5) (Nat.le_of_ble_eq_true rfl)
  rw [lg_entry_eq]
  generalize (lg_sl ([.ref b1, .long a1, .ref bo]) ++ List.replicate (5 - (lg_sl ([.ref b1, .long a1, .ref bo])).length) Slot.unset).toArray = ls at hl ⊢
  have hl : lv_has ls 5 [(0, .ref b1), (1, .long a1), (3, .ref bo)] := hl
  clear hD0 hAe
  unfold j_L_add at hj
  refine lv_aload_n hx hb dL_add_0 rfl (lv_at hl 2 rfl) ?_
  refine lv_iconst (v := (0 : Int32)) hx hb dL_add_1 (by decide) ?_
  refine lv_aload_n hx hb dL_add_2 rfl (lv_at hl 0 rfl) ?_
  refine lv_lload_n hx hb dL_add_3 rfl (lv_at hl 1 rfl) ?_
  obtain ⟨q, hc, hj⟩ := ja_bd hj
  rcases q with _ | ⟨v1, v2, v3⟩
  · try dsimp only at hj
    have hPc := hP.sub (ws' := (wC cJ b1 b0 bw bq bf w en pl cu li ld fb)) [0, 1, 2, 3, 4] rfl
    have hDc := hD.sub (ws' := (wC cJ b1 b0 bw bq bf w en pl cu li ld fb)) [0, 1, 2, 3, 4] (by decide) rfl
    have hFc := va_free (wc := (wC cJ b1 b0 bw bq bf w en pl cu li ld fb)) hD hS hA [0, 1, 2, 3, 4] rfl
    refine vx_calli (vx_runV (As := [.long a1]) (rest := [.int (0 : Int32), .ref bo]) ⟨hx, hb, hml, hown, hts⟩ (x_X1_add l hlt dC dI cI cJ b1 b0 bw bq bf s.heap.size w en pl cu li ld fb a1 hc) (cwV 1 hts gL_add_X1_add rfl rfl rfl (by decide +kernel) ⟨Nat.le_of_ble_eq_true rfl, Nat.le_of_ble_eq_true rfl⟩) ⟨fun a U g mk q => ⟨q.1, jPr.blind q.2.1, jNs.blind q.2.2.1, jXs.blind q.2.2.2⟩, va_recv hK hPc (ci := 1) (q0 := 0) rfl rfl, fun U hU hW => ⟨rfl, jPr.mk hU hW hPc hK hDc, jNs.warm hW hN, jXs.down hU hW hS hFc hXs⟩⟩ rfl rfl hl.1 rfl (lv_room (Nat.le_of_ble_eq_true rfl)) dL_add_4 ⟨Nat.le_of_ble_eq_true rfl, Nat.le_of_ble_eq_true rfl⟩) hS (fun q _ h => hFc q h) hFc (fun q _ h => hFc q h) (fun E ce q9 u t H1 locs ht hvm hpx hBX hz1 hk1 hS hce hcv hcl => ?_) (fun rr u t H1 locs1 ht hvm hw9 hB hz1 hk1 hS => hw9.elim)
    obtain ⟨rfl, hP1, hK1, hD1⟩ := hBX
    rw [ht] at hP1
    obtain ⟨hP, hD⟩ := va_join (wr := ([(bo, .inl (cJ, 1, .inr (.inl ou)))] : va_W)) (w1 := (wC cJ b1 b0 bw bq bf w en pl cu li ld fb)) hP hD [0, 1, 2, 3, 4] [5] rfl rfl (by decide) (by decide) hk1 hFc hP1 hD1
    replace hP := hP.sub (ws' := (wH cJ b1 b0 bw bq bf bo w en pl cu li ld fb ou)) [1, 2, 3, 4, 5, 0] rfl
    replace hD := hD.sub (ws' := (wH cJ b1 b0 bw bq bf bo w en pl cu li ld fb ou)) [1, 2, 3, 4, 5, 0] (by decide) rfl
    clear hk1 hP1 hK1 hD1 hvm hz1 hPc hDc hFc
    refine kx_catch (name := "java/lang/IllegalArgumentException") hown ⟨0, 9, 12, 13⟩ htab (by decide) (by decide) (hts (.classLink RL 13 "java/lang/IllegalArgumentException") (by decide +kernel)) (hXs.wA _ _ (List.mem_of_getElem? (i := 3) rfl)) hce hcv hcl ?_
    generalize H1 = H at hP hS ⊢
    have hP : va_P (dC, dI) vwCl (wH cJ b1 b0 bw bq bf bo w en pl cu li ld fb ou) H := hP
    have hD : va_D A (wH cJ b1 b0 bw bq bf bo w en pl cu li ld fb ou) := hD
    refine lv_astore (lv' := [(4, .ref q9), (0, .ref b1), (1, .long a1), (3, .ref bo)]) hx hb dL_add_12 hl (by decide) rfl (fun ls hl => ?_)
    refine lv_iconst (v := (1 : Int32)) hx hb dL_add_14 (by decide) ?_
    refine W.widen (k := 1) (n := 6) (by decide) (by decide) ?_
    have hr9 : ((1 : Int32), li, ld, ou) = r := Option.some.inj hj
    subst hr9
    exact W.iret (v := (1 : Int32)) hx hb hr (fun t ht hW => ⟨⟨(1 : Int32), (), rfl, rfl, by rw [ht]; exact hP, va_K.moved hW.alike hK, hD⟩, hS.F ht⟩) hS.2.2 dL_add_15
  · try dsimp only at hj
    have hPc := hP.sub (ws' := (wC cJ b1 b0 bw bq bf w en pl cu li ld fb)) [0, 1, 2, 3, 4] rfl
    have hDc := hD.sub (ws' := (wC cJ b1 b0 bw bq bf w en pl cu li ld fb)) [0, 1, 2, 3, 4] (by decide) rfl
    have hFc := va_free (wc := (wC cJ b1 b0 bw bq bf w en pl cu li ld fb)) hD hS hA [0, 1, 2, 3, 4] rfl
    refine va_calli (va_runV (As := [.long a1]) (rest := [.int (0 : Int32), .ref bo]) ⟨hx, hb, hml, hown, hts⟩ (c_X1_add l dC dI cI cJ b1 b0 bw bq bf s.heap.size w en pl cu li ld fb a1 _ hc) (cwV 1 hts gL_add_X1_add rfl rfl rfl (by decide +kernel) ⟨Nat.le_of_ble_eq_true rfl, Nat.le_of_ble_eq_true rfl⟩) ⟨fun a U g mk q => ⟨q.1, jPr.blind q.2.1, jNs.blind q.2.2⟩, va_recv hK hPc (ci := 1) (q0 := 0) rfl rfl, fun U hU hW => ⟨rfl, jPr.mk hU hW hPc hK hDc, jNs.warm hW hN⟩⟩ rfl rfl hl.1 rfl (lv_room (Nat.le_of_ble_eq_true rfl)) dL_add_4 ⟨Nat.le_of_ble_eq_true rfl, Nat.le_of_ble_eq_true rfl⟩) hS (fun q _ h => hFc q h) hFc (fun rr u t H1 locs ht hvm hw9 hB hz1 hk1 hS => ?_)
    have hw8 : v1 = rr := hw9.symm
    subst hw8
    obtain ⟨hP1, hK1, hD1⟩ := hB
    rw [ht] at hP1
    obtain ⟨hP, hD⟩ := va_join (wr := ([(bo, .inl (cJ, 1, .inr (.inl ou)))] : va_W)) (w1 := (wC cJ b1 b0 bw bq bf w en pl cu v2 v3 fb)) hP hD [0, 1, 2, 3, 4] [5] rfl rfl (by decide) (by decide) hk1 hFc hP1 hD1
    replace hP := hP.sub (ws' := (wH cJ b1 b0 bw bq bf bo w en pl cu v2 v3 fb ou)) [1, 2, 3, 4, 5, 0] rfl
    replace hD := hD.sub (ws' := (wH cJ b1 b0 bw bq bf bo w en pl cu v2 v3 fb ou)) [1, 2, 3, 4, 5, 0] (by decide) rfl
    clear hk1 hP1 hK1 hD1 hvm hz1 hPc hDc hFc
    generalize H1 = H at hP hS ⊢
    have hP : va_P (dC, dI) vwCl (wH cJ b1 b0 bw bq bf bo w en pl cu v2 v3 fb ou) H := hP
    have hD : va_D A (wH cJ b1 b0 bw bq bf bo w en pl cu v2 v3 fb ou) := hD
    refine lv_i2l hx hb dL_add_7 rfl ?_
    obtain ⟨hin, hj⟩ := ja_ix hj
    refine va_last hx hb hK hP hD hS 5 1 rfl rfl hin dL_add_8 (fun H locs hP hD hS => ?_)
    have hP : va_P (dC, dI) vwCl (wH cJ b1 b0 bw bq bf bo w en pl cu v2 v3 fb (vp_updL ou (0 : Int32).toNatClampNeg v1.toInt64)) H := hP
    have hD : va_D A (wH cJ b1 b0 bw bq bf bo w en pl cu v2 v3 fb (vp_updL ou (0 : Int32).toNatClampNeg v1.toInt64)) := hD
    refine lv_goto (tgt := 16) hx hb dL_add_9 (by decide) ?_
    refine lv_iconst (v := (0 : Int32)) hx hb dL_add_16 (by decide) ?_
    refine W.widen (k := 1) (n := 6) (by decide) (by decide) ?_
    have hr9 : ((0 : Int32), v2, v3, vp_updL ou (0 : Int32).toNatClampNeg v1.toInt64) = r := Option.some.inj hj
    subst hr9
    exact W.iret (v := (0 : Int32)) hx hb hr (fun t ht hW => ⟨⟨(0 : Int32), (), rfl, rfl, by rw [ht]; exact hP, va_K.moved hW.alike hK, hD⟩, hS.F ht⟩) hS.2.2 dL_add_17

def j_L_get (li : Nat → Int64) (ld : Int32) (ou : Nat → Int64) (a1 : Int32) : Option (Int32 × (Nat → Int64)) :=
  (j_X1_get li ld a1).bind fun q => match q with
    | none => some ((1 : Int32), ou)
    | some v1 => (jix (0 : Int32) 1 (some ((0 : Int32), vp_updL ou (0 : Int32).toNatClampNeg v1)))
set_option maxHeartbeats 4000000 in
set_option maxRecDepth 100000 in
theorem c_L_get (l : Launch) (hlt : l.stackTraces = false) (dC : Nat → ClassId) (dI : Nat → Nat → Nat) (cI cJ : ClassId) (b1 : Nat) (b0 : Nat) (bw : Nat) (bq : Nat) (bf : Nat) (bo : Nat) (sz : Nat) (w : Nat → Int64) (en : Int32) (pl : Int32) (cu : Int32) (li : Nat → Int64) (ld : Int32) (fb : Nat → Int64) (ou : Nat → Int64) (a1 : Int32) (r : Int32 × (Nat → Int64)) (hj : j_L_get li ld ou a1 = some r) : Met l yL_get wsL_get ({ frames := 7, cells := 1, slots := 6, locals := 103 } : Room) (va_Pc [.ref b1, .int a1, .ref bo] (fun U => jPr dC dI cI cJ (wH cJ b1 b0 bw bq bf bo w en pl cu li ld fb ou) sz U ∧ jNs U ∧ jXs (va_A (wH cJ b1 b0 bw bq bf bo w en pl cu li ld fb ou) sz) U)) (va_Qi (fun (v : Int32) (_ : Unit) => v = r.1) (fun (_ : Unit) t => jPo dC dI cI cJ (wH cJ b1 b0 bw bq bf bo w en pl cu li ld fb r.2) (va_A (wH cJ b1 b0 bw bq bf bo w en pl cu li ld fb ou) sz) t) (va_A (wH cJ b1 b0 bw bq bf bo w en pl cu li ld fb ou) sz)) 1 6 (va_A (wH cJ b1 b0 bw bq bf bo w en pl cu li ld fb ou) sz) := by
  refine va_MetW (cc := cL_get) (maxL := 4) (ret := (some .int)) (hh := [(0, 8, 11, 31)]) (by decide) rfl ?_
  intro p e s m args below meth c s₁ B hml hv
  obtain ⟨rfl, ⟨hsz, hP, hK, hD0⟩, hN, hXs⟩ := hv
  have hx := B.exec
  have hb := B.bytes
  have hr := B.returns
  have hts := atoms_spec (ws := wsL_get) B.pre
  have hown : s.vm.findClass RL = some m.cls := findClass_of_methodNamed B.named
  have hlocks := B.notSynchronized
  have htab : c.exceptionTable.toList = [⟨0, 8, 11, 31⟩] := vx_table (x := yL_get) B (hts (.codeWith yL_get cL_get 4 (some .int) [(0, 8, 11, 31)]) (List.mem_cons_self))
  subst hsz
  have hD := hD0.self (sz := s.heap.size)
  generalize hAe : va_A (wH cJ b1 b0 bw bq bf bo w en pl cu li ld fb ou) s.heap.size = A at hD hXs ⊢
  have hA : ∀ q : Nat, s.heap.size ≤ q → A q := fun q h => by rw [← hAe]; exact Or.inr h
  have hS : va_S A s.heap s.heap [] := va_S.rf
  have hP : va_P (dC, dI) vwCl (wH cJ b1 b0 bw bq bf bo w en pl cu li ld fb ou) s.heap := hP
  have hl := lv_entry ([.ref b1, .int a1, .ref bo]) (n := 4) (Nat.le_of_ble_eq_true rfl)
  rw [lg_entry_eq]
  generalize (lg_sl ([.ref b1, .int a1, .ref bo]) ++ List.replicate (4 - (lg_sl ([.ref b1, .int a1, .ref bo])).length) Slot.unset).toArray = ls at hl ⊢
  have hl : lv_has ls 4 [(0, .ref b1), (1, .int a1), (2, .ref bo)] := hl
  clear hD0 hAe
  unfold j_L_get at hj
  refine lv_aload_n hx hb dL_get_0 rfl (lv_at hl 2 rfl) ?_
  refine lv_iconst (v := (0 : Int32)) hx hb dL_get_1 (by decide) ?_
  refine lv_aload_n hx hb dL_get_2 rfl (lv_at hl 0 rfl) ?_
  refine lv_iload_n hx hb dL_get_3 rfl (lv_at hl 1 rfl) ?_
  obtain ⟨q, hc, hj⟩ := ja_bd hj
  rcases q with _ | v1
  · try dsimp only at hj
    have hPc := hP.sub (ws' := (wC cJ b1 b0 bw bq bf w en pl cu li ld fb)) [0, 1, 2, 3, 4] rfl
    have hDc := hD.sub (ws' := (wC cJ b1 b0 bw bq bf w en pl cu li ld fb)) [0, 1, 2, 3, 4] (by decide) rfl
    have hFc := va_free (wc := (wC cJ b1 b0 bw bq bf w en pl cu li ld fb)) hD hS hA [0, 1, 2, 3, 4] rfl
    refine vx_calll (vx_runV (As := [.int a1]) (rest := [.int (0 : Int32), .ref bo]) ⟨hx, hb, hml, hown, hts⟩ (x_X1_get l hlt dC dI cI cJ b1 b0 bw bq bf s.heap.size w en pl cu li ld fb a1 hc) (cwV 1 hts gL_get_X1_get rfl rfl rfl (by decide +kernel) ⟨Nat.le_of_ble_eq_true rfl, Nat.le_of_ble_eq_true rfl⟩) ⟨fun a U g mk q => ⟨q.1, jPr.blind q.2.1, jNs.blind q.2.2.1, jXs.blind q.2.2.2⟩, va_recv hK hPc (ci := 1) (q0 := 0) rfl rfl, fun U hU hW => ⟨rfl, jPr.mk hU hW hPc hK hDc, jNs.warm hW hN, jXs.down hU hW hS hFc hXs⟩⟩ rfl rfl hl.1 rfl (lv_room (Nat.le_of_ble_eq_true rfl)) dL_get_4 ⟨Nat.le_of_ble_eq_true rfl, Nat.le_of_ble_eq_true rfl⟩) hS (fun q _ h => hFc q h) hFc (fun q _ h => hFc q h) (fun E ce q9 u t H1 locs ht hvm hpx hBX hz1 hk1 hS hce hcv hcl => ?_) (fun rr u t H1 locs1 ht hvm hw9 hB hz1 hk1 hS => hw9.elim)
    obtain ⟨rfl, hP1, hK1, hD1⟩ := hBX
    rw [ht] at hP1
    obtain ⟨hP, hD⟩ := va_join (wr := ([(bo, .inl (cJ, 1, .inr (.inl ou)))] : va_W)) (w1 := (wC cJ b1 b0 bw bq bf w en pl cu li ld fb)) hP hD [0, 1, 2, 3, 4] [5] rfl rfl (by decide) (by decide) hk1 hFc hP1 hD1
    replace hP := hP.sub (ws' := (wH cJ b1 b0 bw bq bf bo w en pl cu li ld fb ou)) [1, 2, 3, 4, 5, 0] rfl
    replace hD := hD.sub (ws' := (wH cJ b1 b0 bw bq bf bo w en pl cu li ld fb ou)) [1, 2, 3, 4, 5, 0] (by decide) rfl
    clear hk1 hP1 hK1 hD1 hvm hz1 hPc hDc hFc
    refine kx_catch (name := "java/lang/IndexOutOfBoundsException") hown ⟨0, 8, 11, 31⟩ htab (by decide) (by decide) (hts (.classLink RL 31 "java/lang/IndexOutOfBoundsException") (by decide +kernel)) (hXs.wB _ _ (List.mem_of_getElem? (i := 3) rfl)) hce hcv hcl ?_
    generalize H1 = H at hP hS ⊢
    have hP : va_P (dC, dI) vwCl (wH cJ b1 b0 bw bq bf bo w en pl cu li ld fb ou) H := hP
    have hD : va_D A (wH cJ b1 b0 bw bq bf bo w en pl cu li ld fb ou) := hD
    refine lv_astore_n (lv' := [(3, .ref q9), (0, .ref b1), (1, .int a1), (2, .ref bo)]) hx hb dL_get_11 rfl hl (by decide) rfl (fun ls hl => ?_)
    refine lv_iconst (v := (1 : Int32)) hx hb dL_get_12 (by decide) ?_
    refine W.widen (k := 1) (n := 6) (by decide) (by decide) ?_
    have hr9 : ((1 : Int32), ou) = r := Option.some.inj hj
    subst hr9
    exact W.iret (v := (1 : Int32)) hx hb hr (fun t ht hW => ⟨⟨(1 : Int32), (), rfl, rfl, by rw [ht]; exact hP, va_K.moved hW.alike hK, hD⟩, hS.F ht⟩) hS.2.2 dL_get_13
  · try dsimp only at hj
    have hPc := hP.sub (ws' := (wC cJ b1 b0 bw bq bf w en pl cu li ld fb)) [0, 1, 2, 3, 4] rfl
    have hDc := hD.sub (ws' := (wC cJ b1 b0 bw bq bf w en pl cu li ld fb)) [0, 1, 2, 3, 4] (by decide) rfl
    have hFc := va_free (wc := (wC cJ b1 b0 bw bq bf w en pl cu li ld fb)) hD hS hA [0, 1, 2, 3, 4] rfl
    refine va_calll (va_runV (As := [.int a1]) (rest := [.int (0 : Int32), .ref bo]) ⟨hx, hb, hml, hown, hts⟩ (c_X1_get l dC dI cI cJ b1 b0 bw bq bf s.heap.size w en pl cu li ld fb a1 _ hc) (cwV 1 hts gL_get_X1_get rfl rfl rfl (by decide +kernel) ⟨Nat.le_of_ble_eq_true rfl, Nat.le_of_ble_eq_true rfl⟩) ⟨fun a U g mk q => ⟨q.1, jPr.blind q.2.1, jNs.blind q.2.2⟩, va_recv hK hPc (ci := 1) (q0 := 0) rfl rfl, fun U hU hW => ⟨rfl, jPr.mk hU hW hPc hK hDc, jNs.warm hW hN⟩⟩ rfl rfl hl.1 rfl (lv_room (Nat.le_of_ble_eq_true rfl)) dL_get_4 ⟨Nat.le_of_ble_eq_true rfl, Nat.le_of_ble_eq_true rfl⟩) hS (fun q _ h => hFc q h) hFc (fun rr u t H1 locs ht hvm hw9 hB hz1 hk1 hS => ?_)
    have hw8 : v1 = rr := hw9.symm
    subst hw8
    obtain ⟨hP1, hK1, hD1⟩ := hB
    rw [ht] at hP1
    obtain ⟨hP, hD⟩ := va_join (wr := ([(bo, .inl (cJ, 1, .inr (.inl ou)))] : va_W)) (w1 := (wC cJ b1 b0 bw bq bf w en pl cu li ld fb)) hP hD [0, 1, 2, 3, 4] [5] rfl rfl (by decide) (by decide) hk1 hFc hP1 hD1
    replace hP := hP.sub (ws' := (wH cJ b1 b0 bw bq bf bo w en pl cu li ld fb ou)) [1, 2, 3, 4, 5, 0] rfl
    replace hD := hD.sub (ws' := (wH cJ b1 b0 bw bq bf bo w en pl cu li ld fb ou)) [1, 2, 3, 4, 5, 0] (by decide) rfl
    clear hk1 hP1 hK1 hD1 hvm hz1 hPc hDc hFc
    generalize H1 = H at hP hS ⊢
    have hP : va_P (dC, dI) vwCl (wH cJ b1 b0 bw bq bf bo w en pl cu li ld fb ou) H := hP
    have hD : va_D A (wH cJ b1 b0 bw bq bf bo w en pl cu li ld fb ou) := hD
    obtain ⟨hin, hj⟩ := ja_ix hj
    refine va_last hx hb hK hP hD hS 5 1 rfl rfl hin dL_get_7 (fun H locs hP hD hS => ?_)
    have hP : va_P (dC, dI) vwCl (wH cJ b1 b0 bw bq bf bo w en pl cu li ld fb (vp_updL ou (0 : Int32).toNatClampNeg v1)) H := hP
    have hD : va_D A (wH cJ b1 b0 bw bq bf bo w en pl cu li ld fb (vp_updL ou (0 : Int32).toNatClampNeg v1)) := hD
    refine lv_goto (tgt := 14) hx hb dL_get_8 (by decide) ?_
    refine lv_iconst (v := (0 : Int32)) hx hb dL_get_14 (by decide) ?_
    refine W.widen (k := 1) (n := 6) (by decide) (by decide) ?_
    have hr9 : ((0 : Int32), vp_updL ou (0 : Int32).toNatClampNeg v1) = r := Option.some.inj hj
    subst hr9
    exact W.iret (v := (0 : Int32)) hx hb hr (fun t ht hW => ⟨⟨(0 : Int32), (), rfl, rfl, by rw [ht]; exact hP, va_K.moved hW.alike hK, hD⟩, hS.F ht⟩) hS.2.2 dL_get_15

def j_L_total (li : Nat → Int64) (ld : Int32) (fb : Nat → Int64) (ou : Nat → Int64) (a1 : Int32) (a2 : Int32) : Option (Int32 × (Nat → Int64)) :=
  (j_X1_total li ld fb a1 a2).bind fun q => match q with
    | none => some ((1 : Int32), ou)
    | some v1 => (jix (0 : Int32) 1 (some ((0 : Int32), vp_updL ou (0 : Int32).toNatClampNeg v1)))
set_option maxHeartbeats 4000000 in
set_option maxRecDepth 100000 in
theorem c_L_total (l : Launch) (hlt : l.stackTraces = false) (dC : Nat → ClassId) (dI : Nat → Nat → Nat) (cI cJ : ClassId) (b1 : Nat) (b0 : Nat) (bw : Nat) (bq : Nat) (bf : Nat) (bo : Nat) (sz : Nat) (w : Nat → Int64) (en : Int32) (pl : Int32) (cu : Int32) (li : Nat → Int64) (ld : Int32) (fb : Nat → Int64) (ou : Nat → Int64) (a1 : Int32) (a2 : Int32) (r : Int32 × (Nat → Int64)) (hj : j_L_total li ld fb ou a1 a2 = some r) : Met l yL_total wsL_total ({ frames := 8, cells := 1, slots := 6, locals := 184 } : Room) (va_Pc [.ref b1, .int a1, .int a2, .ref bo] (fun U => jPr dC dI cI cJ (wH cJ b1 b0 bw bq bf bo w en pl cu li ld fb ou) sz U ∧ jNs U ∧ jXs (va_A (wH cJ b1 b0 bw bq bf bo w en pl cu li ld fb ou) sz) U)) (va_Qi (fun (v : Int32) (_ : Unit) => v = r.1) (fun (_ : Unit) t => jPo dC dI cI cJ (wH cJ b1 b0 bw bq bf bo w en pl cu li ld fb r.2) (va_A (wH cJ b1 b0 bw bq bf bo w en pl cu li ld fb ou) sz) t) (va_A (wH cJ b1 b0 bw bq bf bo w en pl cu li ld fb ou) sz)) 1 6 (va_A (wH cJ b1 b0 bw bq bf bo w en pl cu li ld fb ou) sz) := by
  refine va_MetW (cc := cL_total) (maxL := 5) (ret := (some .int)) (hh := [(0, 9, 12, 13)]) (by decide) rfl ?_
  intro p e s m args below meth c s₁ B hml hv
  obtain ⟨rfl, ⟨hsz, hP, hK, hD0⟩, hN, hXs⟩ := hv
  have hx := B.exec
  have hb := B.bytes
  have hr := B.returns
  have hts := atoms_spec (ws := wsL_total) B.pre
  have hown : s.vm.findClass RL = some m.cls := findClass_of_methodNamed B.named
  have hlocks := B.notSynchronized
  have htab : c.exceptionTable.toList = [⟨0, 9, 12, 13⟩] := vx_table (x := yL_total) B (hts (.codeWith yL_total cL_total 5 (some .int) [(0, 9, 12, 13)]) (List.mem_cons_self))
  subst hsz
  have hD := hD0.self (sz := s.heap.size)
  generalize hAe : va_A (wH cJ b1 b0 bw bq bf bo w en pl cu li ld fb ou) s.heap.size = A at hD hXs ⊢
  have hA : ∀ q : Nat, s.heap.size ≤ q → A q := fun q h => by rw [← hAe]; exact Or.inr h
  have hS : va_S A s.heap s.heap [] := va_S.rf
  have hP : va_P (dC, dI) vwCl (wH cJ b1 b0 bw bq bf bo w en pl cu li ld fb ou) s.heap := hP
  have hl := lv_entry ([.ref b1, .int a1, .int a2, .ref bo]) (n := 5) (Nat.le_of_ble_eq_true rfl)
  rw [lg_entry_eq]
  generalize (lg_sl ([.ref b1, .int a1, .int a2, .ref bo]) ++ List.replicate (5 - (lg_sl ([.ref b1, .int a1, .int a2, .ref bo])).length) Slot.unset).toArray = ls at hl ⊢
  have hl : lv_has ls 5 [(0, .ref b1), (1, .int a1), (2, .int a2), (3, .ref bo)] := hl
  clear hD0 hAe
  unfold j_L_total at hj
  refine lv_aload_n hx hb dL_total_0 rfl (lv_at hl 3 rfl) ?_
  refine lv_iconst (v := (0 : Int32)) hx hb dL_total_1 (by decide) ?_
  refine lv_aload_n hx hb dL_total_2 rfl (lv_at hl 0 rfl) ?_
  refine lv_iload_n hx hb dL_total_3 rfl (lv_at hl 1 rfl) ?_
  refine lv_iload_n hx hb dL_total_4 rfl (lv_at hl 2 rfl) ?_
  obtain ⟨q, hc, hj⟩ := ja_bd hj
  rcases q with _ | v1
  · try dsimp only at hj
    have hPc := hP.sub (ws' := (wC cJ b1 b0 bw bq bf w en pl cu li ld fb)) [0, 1, 2, 3, 4] rfl
    have hDc := hD.sub (ws' := (wC cJ b1 b0 bw bq bf w en pl cu li ld fb)) [0, 1, 2, 3, 4] (by decide) rfl
    have hFc := va_free (wc := (wC cJ b1 b0 bw bq bf w en pl cu li ld fb)) hD hS hA [0, 1, 2, 3, 4] rfl
    refine vx_calll (vx_runV (As := [.int a1, .int a2]) (rest := [.int (0 : Int32), .ref bo]) ⟨hx, hb, hml, hown, hts⟩ (x_X1_total l hlt dC dI cI cJ b1 b0 bw bq bf s.heap.size w en pl cu li ld fb a1 a2 hc) (cwV 2 hts gL_total_X1_total rfl rfl rfl (by decide +kernel) ⟨Nat.le_of_ble_eq_true rfl, Nat.le_of_ble_eq_true rfl⟩) ⟨fun a U g mk q => ⟨q.1, jPr.blind q.2.1, jNs.blind q.2.2.1, jXs.blind q.2.2.2⟩, va_recv hK hPc (ci := 1) (q0 := 0) rfl rfl, fun U hU hW => ⟨rfl, jPr.mk hU hW hPc hK hDc, jNs.warm hW hN, jXs.down hU hW hS hFc hXs⟩⟩ rfl rfl hl.1 rfl (lv_room (Nat.le_of_ble_eq_true rfl)) dL_total_5 ⟨Nat.le_of_ble_eq_true rfl, Nat.le_of_ble_eq_true rfl⟩) hS (fun q _ h => hFc q h) hFc (fun q _ h => hFc q h) (fun E ce q9 u t H1 locs ht hvm hpx hBX hz1 hk1 hS hce hcv hcl => ?_) (fun rr u t H1 locs1 ht hvm hw9 hB hz1 hk1 hS => hw9.elim)
    obtain ⟨rfl, hP1, hK1, hD1⟩ := hBX
    rw [ht] at hP1
    obtain ⟨hP, hD⟩ := va_join (wr := ([(bo, .inl (cJ, 1, .inr (.inl ou)))] : va_W)) (w1 := (wC cJ b1 b0 bw bq bf w en pl cu li ld fb)) hP hD [0, 1, 2, 3, 4] [5] rfl rfl (by decide) (by decide) hk1 hFc hP1 hD1
    replace hP := hP.sub (ws' := (wH cJ b1 b0 bw bq bf bo w en pl cu li ld fb ou)) [1, 2, 3, 4, 5, 0] rfl
    replace hD := hD.sub (ws' := (wH cJ b1 b0 bw bq bf bo w en pl cu li ld fb ou)) [1, 2, 3, 4, 5, 0] (by decide) rfl
    clear hk1 hP1 hK1 hD1 hvm hz1 hPc hDc hFc
    refine kx_catch (name := "java/lang/IllegalArgumentException") hown ⟨0, 9, 12, 13⟩ htab (by decide) (by decide) (hts (.classLink RL 13 "java/lang/IllegalArgumentException") (by decide +kernel)) (hXs.wA _ _ (List.mem_of_getElem? (i := 3) rfl)) hce hcv hcl ?_
    generalize H1 = H at hP hS ⊢
    have hP : va_P (dC, dI) vwCl (wH cJ b1 b0 bw bq bf bo w en pl cu li ld fb ou) H := hP
    have hD : va_D A (wH cJ b1 b0 bw bq bf bo w en pl cu li ld fb ou) := hD
    refine lv_astore (lv' := [(4, .ref q9), (0, .ref b1), (1, .int a1), (2, .int a2), (3, .ref bo)]) hx hb dL_total_12 hl (by decide) rfl (fun ls hl => ?_)
    refine lv_iconst (v := (1 : Int32)) hx hb dL_total_14 (by decide) ?_
    refine W.widen (k := 1) (n := 6) (by decide) (by decide) ?_
    have hr9 : ((1 : Int32), ou) = r := Option.some.inj hj
    subst hr9
    exact W.iret (v := (1 : Int32)) hx hb hr (fun t ht hW => ⟨⟨(1 : Int32), (), rfl, rfl, by rw [ht]; exact hP, va_K.moved hW.alike hK, hD⟩, hS.F ht⟩) hS.2.2 dL_total_15
  · try dsimp only at hj
    have hPc := hP.sub (ws' := (wC cJ b1 b0 bw bq bf w en pl cu li ld fb)) [0, 1, 2, 3, 4] rfl
    have hDc := hD.sub (ws' := (wC cJ b1 b0 bw bq bf w en pl cu li ld fb)) [0, 1, 2, 3, 4] (by decide) rfl
    have hFc := va_free (wc := (wC cJ b1 b0 bw bq bf w en pl cu li ld fb)) hD hS hA [0, 1, 2, 3, 4] rfl
    refine va_calll (va_runV (As := [.int a1, .int a2]) (rest := [.int (0 : Int32), .ref bo]) ⟨hx, hb, hml, hown, hts⟩ (c_X1_total l dC dI cI cJ b1 b0 bw bq bf s.heap.size w en pl cu li ld fb a1 a2 _ hc) (cwV 2 hts gL_total_X1_total rfl rfl rfl (by decide +kernel) ⟨Nat.le_of_ble_eq_true rfl, Nat.le_of_ble_eq_true rfl⟩) ⟨fun a U g mk q => ⟨q.1, jPr.blind q.2.1, jNs.blind q.2.2⟩, va_recv hK hPc (ci := 1) (q0 := 0) rfl rfl, fun U hU hW => ⟨rfl, jPr.mk hU hW hPc hK hDc, jNs.warm hW hN⟩⟩ rfl rfl hl.1 rfl (lv_room (Nat.le_of_ble_eq_true rfl)) dL_total_5 ⟨Nat.le_of_ble_eq_true rfl, Nat.le_of_ble_eq_true rfl⟩) hS (fun q _ h => hFc q h) hFc (fun rr u t H1 locs ht hvm hw9 hB hz1 hk1 hS => ?_)
    have hw8 : v1 = rr := hw9.symm
    subst hw8
    obtain ⟨hP1, hK1, hD1⟩ := hB
    rw [ht] at hP1
    obtain ⟨hP, hD⟩ := va_join (wr := ([(bo, .inl (cJ, 1, .inr (.inl ou)))] : va_W)) (w1 := (wC cJ b1 b0 bw bq bf w en pl cu li ld fb)) hP hD [0, 1, 2, 3, 4] [5] rfl rfl (by decide) (by decide) hk1 hFc hP1 hD1
    replace hP := hP.sub (ws' := (wH cJ b1 b0 bw bq bf bo w en pl cu li ld fb ou)) [1, 2, 3, 4, 5, 0] rfl
    replace hD := hD.sub (ws' := (wH cJ b1 b0 bw bq bf bo w en pl cu li ld fb ou)) [1, 2, 3, 4, 5, 0] (by decide) rfl
    clear hk1 hP1 hK1 hD1 hvm hz1 hPc hDc hFc
    generalize H1 = H at hP hS ⊢
    have hP : va_P (dC, dI) vwCl (wH cJ b1 b0 bw bq bf bo w en pl cu li ld fb ou) H := hP
    have hD : va_D A (wH cJ b1 b0 bw bq bf bo w en pl cu li ld fb ou) := hD
    obtain ⟨hin, hj⟩ := ja_ix hj
    refine va_last hx hb hK hP hD hS 5 1 rfl rfl hin dL_total_8 (fun H locs hP hD hS => ?_)
    have hP : va_P (dC, dI) vwCl (wH cJ b1 b0 bw bq bf bo w en pl cu li ld fb (vp_updL ou (0 : Int32).toNatClampNeg v1)) H := hP
    have hD : va_D A (wH cJ b1 b0 bw bq bf bo w en pl cu li ld fb (vp_updL ou (0 : Int32).toNatClampNeg v1)) := hD
    refine lv_goto (tgt := 16) hx hb dL_total_9 (by decide) ?_
    refine lv_iconst (v := (0 : Int32)) hx hb dL_total_16 (by decide) ?_
    refine W.widen (k := 1) (n := 6) (by decide) (by decide) ?_
    have hr9 : ((0 : Int32), vp_updL ou (0 : Int32).toNatClampNeg v1) = r := Option.some.inj hj
    subst hr9
    exact W.iret (v := (0 : Int32)) hx hb hr (fun t ht hW => ⟨⟨(0 : Int32), (), rfl, rfl, by rw [ht]; exact hP, va_K.moved hW.alike hK, hD⟩, hS.F ht⟩) hS.2.2 dL_total_17

def j_L_best (li : Nat → Int64) (ld : Int32) (fb : Nat → Int64) (ou : Nat → Int64) (a1 : Int32) (a2 : Int32) : Option (Int32 × (Nat → Int64)) :=
  (j_X1_best li ld fb a1 a2).bind fun q => match q with
    | none => some ((1 : Int32), ou)
    | some v1 => (jix (0 : Int32) 1 (some ((0 : Int32), vp_updL ou (0 : Int32).toNatClampNeg v1.toInt64)))
set_option maxHeartbeats 4000000 in
set_option maxRecDepth 100000 in
theorem c_L_best (l : Launch) (hlt : l.stackTraces = false) (dC : Nat → ClassId) (dI : Nat → Nat → Nat) (cI cJ : ClassId) (b1 : Nat) (b0 : Nat) (bw : Nat) (bq : Nat) (bf : Nat) (bo : Nat) (sz : Nat) (w : Nat → Int64) (en : Int32) (pl : Int32) (cu : Int32) (li : Nat → Int64) (ld : Int32) (fb : Nat → Int64) (ou : Nat → Int64) (a1 : Int32) (a2 : Int32) (r : Int32 × (Nat → Int64)) (hj : j_L_best li ld fb ou a1 a2 = some r) : Met l yL_best wsL_best ({ frames := 8, cells := 1, slots := 6, locals := 190 } : Room) (va_Pc [.ref b1, .int a1, .int a2, .ref bo] (fun U => jPr dC dI cI cJ (wH cJ b1 b0 bw bq bf bo w en pl cu li ld fb ou) sz U ∧ jNs U ∧ jXs (va_A (wH cJ b1 b0 bw bq bf bo w en pl cu li ld fb ou) sz) U)) (va_Qi (fun (v : Int32) (_ : Unit) => v = r.1) (fun (_ : Unit) t => jPo dC dI cI cJ (wH cJ b1 b0 bw bq bf bo w en pl cu li ld fb r.2) (va_A (wH cJ b1 b0 bw bq bf bo w en pl cu li ld fb ou) sz) t) (va_A (wH cJ b1 b0 bw bq bf bo w en pl cu li ld fb ou) sz)) 1 6 (va_A (wH cJ b1 b0 bw bq bf bo w en pl cu li ld fb ou) sz) := by
  refine va_MetW (cc := cL_best) (maxL := 5) (ret := (some .int)) (hh := [(0, 10, 13, 13)]) (by decide) rfl ?_
  intro p e s m args below meth c s₁ B hml hv
  obtain ⟨rfl, ⟨hsz, hP, hK, hD0⟩, hN, hXs⟩ := hv
  have hx := B.exec
  have hb := B.bytes
  have hr := B.returns
  have hts := atoms_spec (ws := wsL_best) B.pre
  have hown : s.vm.findClass RL = some m.cls := findClass_of_methodNamed B.named
  have hlocks := B.notSynchronized
  have htab : c.exceptionTable.toList = [⟨0, 10, 13, 13⟩] := vx_table (x := yL_best) B (hts (.codeWith yL_best cL_best 5 (some .int) [(0, 10, 13, 13)]) (List.mem_cons_self))
  subst hsz
  have hD := hD0.self (sz := s.heap.size)
  generalize hAe : va_A (wH cJ b1 b0 bw bq bf bo w en pl cu li ld fb ou) s.heap.size = A at hD hXs ⊢
  have hA : ∀ q : Nat, s.heap.size ≤ q → A q := fun q h => by rw [← hAe]; exact Or.inr h
  have hS : va_S A s.heap s.heap [] := va_S.rf
  have hP : va_P (dC, dI) vwCl (wH cJ b1 b0 bw bq bf bo w en pl cu li ld fb ou) s.heap := hP
  have hl := lv_entry ([.ref b1, .int a1, .int a2, .ref bo]) (n := 5) (Nat.le_of_ble_eq_true rfl)
  rw [lg_entry_eq]
  generalize (lg_sl ([.ref b1, .int a1, .int a2, .ref bo]) ++ List.replicate (5 - (lg_sl ([.ref b1, .int a1, .int a2, .ref bo])).length) Slot.unset).toArray = ls at hl ⊢
  have hl : lv_has ls 5 [(0, .ref b1), (1, .int a1), (2, .int a2), (3, .ref bo)] := hl
  clear hD0 hAe
  unfold j_L_best at hj
  refine lv_aload_n hx hb dL_best_0 rfl (lv_at hl 3 rfl) ?_
  refine lv_iconst (v := (0 : Int32)) hx hb dL_best_1 (by decide) ?_
  refine lv_aload_n hx hb dL_best_2 rfl (lv_at hl 0 rfl) ?_
  refine lv_iload_n hx hb dL_best_3 rfl (lv_at hl 1 rfl) ?_
  refine lv_iload_n hx hb dL_best_4 rfl (lv_at hl 2 rfl) ?_
  obtain ⟨q, hc, hj⟩ := ja_bd hj
  rcases q with _ | v1
  · try dsimp only at hj
    have hPc := hP.sub (ws' := (wC cJ b1 b0 bw bq bf w en pl cu li ld fb)) [0, 1, 2, 3, 4] rfl
    have hDc := hD.sub (ws' := (wC cJ b1 b0 bw bq bf w en pl cu li ld fb)) [0, 1, 2, 3, 4] (by decide) rfl
    have hFc := va_free (wc := (wC cJ b1 b0 bw bq bf w en pl cu li ld fb)) hD hS hA [0, 1, 2, 3, 4] rfl
    refine vx_calli (vx_runV (As := [.int a1, .int a2]) (rest := [.int (0 : Int32), .ref bo]) ⟨hx, hb, hml, hown, hts⟩ (x_X1_best l hlt dC dI cI cJ b1 b0 bw bq bf s.heap.size w en pl cu li ld fb a1 a2 hc) (cwV 2 hts gL_best_X1_best rfl rfl rfl (by decide +kernel) ⟨Nat.le_of_ble_eq_true rfl, Nat.le_of_ble_eq_true rfl⟩) ⟨fun a U g mk q => ⟨q.1, jPr.blind q.2.1, jNs.blind q.2.2.1, jXs.blind q.2.2.2⟩, va_recv hK hPc (ci := 1) (q0 := 0) rfl rfl, fun U hU hW => ⟨rfl, jPr.mk hU hW hPc hK hDc, jNs.warm hW hN, jXs.down hU hW hS hFc hXs⟩⟩ rfl rfl hl.1 rfl (lv_room (Nat.le_of_ble_eq_true rfl)) dL_best_5 ⟨Nat.le_of_ble_eq_true rfl, Nat.le_of_ble_eq_true rfl⟩) hS (fun q _ h => hFc q h) hFc (fun q _ h => hFc q h) (fun E ce q9 u t H1 locs ht hvm hpx hBX hz1 hk1 hS hce hcv hcl => ?_) (fun rr u t H1 locs1 ht hvm hw9 hB hz1 hk1 hS => hw9.elim)
    obtain ⟨rfl, hP1, hK1, hD1⟩ := hBX
    rw [ht] at hP1
    obtain ⟨hP, hD⟩ := va_join (wr := ([(bo, .inl (cJ, 1, .inr (.inl ou)))] : va_W)) (w1 := (wC cJ b1 b0 bw bq bf w en pl cu li ld fb)) hP hD [0, 1, 2, 3, 4] [5] rfl rfl (by decide) (by decide) hk1 hFc hP1 hD1
    replace hP := hP.sub (ws' := (wH cJ b1 b0 bw bq bf bo w en pl cu li ld fb ou)) [1, 2, 3, 4, 5, 0] rfl
    replace hD := hD.sub (ws' := (wH cJ b1 b0 bw bq bf bo w en pl cu li ld fb ou)) [1, 2, 3, 4, 5, 0] (by decide) rfl
    clear hk1 hP1 hK1 hD1 hvm hz1 hPc hDc hFc
    refine kx_catch (name := "java/lang/IllegalArgumentException") hown ⟨0, 10, 13, 13⟩ htab (by decide) (by decide) (hts (.classLink RL 13 "java/lang/IllegalArgumentException") (by decide +kernel)) (hXs.wA _ _ (List.mem_of_getElem? (i := 3) rfl)) hce hcv hcl ?_
    generalize H1 = H at hP hS ⊢
    have hP : va_P (dC, dI) vwCl (wH cJ b1 b0 bw bq bf bo w en pl cu li ld fb ou) H := hP
    have hD : va_D A (wH cJ b1 b0 bw bq bf bo w en pl cu li ld fb ou) := hD
    refine lv_astore (lv' := [(4, .ref q9), (0, .ref b1), (1, .int a1), (2, .int a2), (3, .ref bo)]) hx hb dL_best_13 hl (by decide) rfl (fun ls hl => ?_)
    refine lv_iconst (v := (1 : Int32)) hx hb dL_best_15 (by decide) ?_
    refine W.widen (k := 1) (n := 6) (by decide) (by decide) ?_
    have hr9 : ((1 : Int32), ou) = r := Option.some.inj hj
    subst hr9
    exact W.iret (v := (1 : Int32)) hx hb hr (fun t ht hW => ⟨⟨(1 : Int32), (), rfl, rfl, by rw [ht]; exact hP, va_K.moved hW.alike hK, hD⟩, hS.F ht⟩) hS.2.2 dL_best_16
  · try dsimp only at hj
    have hPc := hP.sub (ws' := (wC cJ b1 b0 bw bq bf w en pl cu li ld fb)) [0, 1, 2, 3, 4] rfl
    have hDc := hD.sub (ws' := (wC cJ b1 b0 bw bq bf w en pl cu li ld fb)) [0, 1, 2, 3, 4] (by decide) rfl
    have hFc := va_free (wc := (wC cJ b1 b0 bw bq bf w en pl cu li ld fb)) hD hS hA [0, 1, 2, 3, 4] rfl
    refine va_calli (va_runV (As := [.int a1, .int a2]) (rest := [.int (0 : Int32), .ref bo]) ⟨hx, hb, hml, hown, hts⟩ (c_X1_best l dC dI cI cJ b1 b0 bw bq bf s.heap.size w en pl cu li ld fb a1 a2 _ hc) (cwV 2 hts gL_best_X1_best rfl rfl rfl (by decide +kernel) ⟨Nat.le_of_ble_eq_true rfl, Nat.le_of_ble_eq_true rfl⟩) ⟨fun a U g mk q => ⟨q.1, jPr.blind q.2.1, jNs.blind q.2.2⟩, va_recv hK hPc (ci := 1) (q0 := 0) rfl rfl, fun U hU hW => ⟨rfl, jPr.mk hU hW hPc hK hDc, jNs.warm hW hN⟩⟩ rfl rfl hl.1 rfl (lv_room (Nat.le_of_ble_eq_true rfl)) dL_best_5 ⟨Nat.le_of_ble_eq_true rfl, Nat.le_of_ble_eq_true rfl⟩) hS (fun q _ h => hFc q h) hFc (fun rr u t H1 locs ht hvm hw9 hB hz1 hk1 hS => ?_)
    have hw8 : v1 = rr := hw9.symm
    subst hw8
    obtain ⟨hP1, hK1, hD1⟩ := hB
    rw [ht] at hP1
    obtain ⟨hP, hD⟩ := va_join (wr := ([(bo, .inl (cJ, 1, .inr (.inl ou)))] : va_W)) (w1 := (wC cJ b1 b0 bw bq bf w en pl cu li ld fb)) hP hD [0, 1, 2, 3, 4] [5] rfl rfl (by decide) (by decide) hk1 hFc hP1 hD1
    replace hP := hP.sub (ws' := (wH cJ b1 b0 bw bq bf bo w en pl cu li ld fb ou)) [1, 2, 3, 4, 5, 0] rfl
    replace hD := hD.sub (ws' := (wH cJ b1 b0 bw bq bf bo w en pl cu li ld fb ou)) [1, 2, 3, 4, 5, 0] (by decide) rfl
    clear hk1 hP1 hK1 hD1 hvm hz1 hPc hDc hFc
    generalize H1 = H at hP hS ⊢
    have hP : va_P (dC, dI) vwCl (wH cJ b1 b0 bw bq bf bo w en pl cu li ld fb ou) H := hP
    have hD : va_D A (wH cJ b1 b0 bw bq bf bo w en pl cu li ld fb ou) := hD
    refine lv_i2l hx hb dL_best_8 rfl ?_
    obtain ⟨hin, hj⟩ := ja_ix hj
    refine va_last hx hb hK hP hD hS 5 1 rfl rfl hin dL_best_9 (fun H locs hP hD hS => ?_)
    have hP : va_P (dC, dI) vwCl (wH cJ b1 b0 bw bq bf bo w en pl cu li ld fb (vp_updL ou (0 : Int32).toNatClampNeg v1.toInt64)) H := hP
    have hD : va_D A (wH cJ b1 b0 bw bq bf bo w en pl cu li ld fb (vp_updL ou (0 : Int32).toNatClampNeg v1.toInt64)) := hD
    refine lv_goto (tgt := 17) hx hb dL_best_10 (by decide) ?_
    refine lv_iconst (v := (0 : Int32)) hx hb dL_best_17 (by decide) ?_
    refine W.widen (k := 1) (n := 6) (by decide) (by decide) ?_
    have hr9 : ((0 : Int32), vp_updL ou (0 : Int32).toNatClampNeg v1.toInt64) = r := Option.some.inj hj
    subst hr9
    exact W.iret (v := (0 : Int32)) hx hb hr (fun t ht hW => ⟨⟨(0 : Int32), (), rfl, rfl, by rw [ht]; exact hP, va_K.moved hW.alike hK, hD⟩, hS.F ht⟩) hS.2.2 dL_best_18

def j_L_putAll (w : Nat → Int64) (en : Int32) (li : Nat → Int64) (ld : Int32) (fb : Nat → Int64) (ou : Nat → Int64) (a1 : Int32) (a2 : Int32) : Option (Int32 × (Nat → Int64) × Int32 × (Nat → Int64)) :=
  (j_X1_putAll w en li ld fb a1 a2).bind fun q => match q with
    | none => some ((1 : Int32), w, en, ou)
    | some (v1, v2, v3) => (jix (0 : Int32) 1 (some ((0 : Int32), v2, v3, vp_updL ou (0 : Int32).toNatClampNeg v1.toInt64)))
set_option maxHeartbeats 4000000 in
set_option maxRecDepth 100000 in
theorem c_L_putAll (l : Launch) (hlt : l.stackTraces = false) (dC : Nat → ClassId) (dI : Nat → Nat → Nat) (cI cJ : ClassId) (b1 : Nat) (b0 : Nat) (bw : Nat) (bq : Nat) (bf : Nat) (bo : Nat) (sz : Nat) (w : Nat → Int64) (en : Int32) (pl : Int32) (cu : Int32) (li : Nat → Int64) (ld : Int32) (fb : Nat → Int64) (ou : Nat → Int64) (a1 : Int32) (a2 : Int32) (r : Int32 × (Nat → Int64) × Int32 × (Nat → Int64)) (hj : j_L_putAll w en li ld fb ou a1 a2 = some r) : Met l yL_putAll wsL_putAll ({ frames := 8, cells := 1, slots := 6, locals := 189 } : Room) (va_Pc [.ref b1, .int a1, .int a2, .ref bo] (fun U => jPr dC dI cI cJ (wH cJ b1 b0 bw bq bf bo w en pl cu li ld fb ou) sz U ∧ jNs U ∧ jXs (va_A (wH cJ b1 b0 bw bq bf bo w en pl cu li ld fb ou) sz) U)) (va_Qi (fun (v : Int32) (_ : Unit) => v = r.1) (fun (_ : Unit) t => jPo dC dI cI cJ (wH cJ b1 b0 bw bq bf bo r.2.1 r.2.2.1 pl cu li ld fb r.2.2.2) (va_A (wH cJ b1 b0 bw bq bf bo w en pl cu li ld fb ou) sz) t) (va_A (wH cJ b1 b0 bw bq bf bo w en pl cu li ld fb ou) sz)) 1 6 (va_A (wH cJ b1 b0 bw bq bf bo w en pl cu li ld fb ou) sz) := by
  refine va_MetW (cc := cL_putAll) (maxL := 5) (ret := (some .int)) (hh := [(0, 10, 13, 13)]) (by decide) rfl ?_
  intro p e s m args below meth c s₁ B hml hv
  obtain ⟨rfl, ⟨hsz, hP, hK, hD0⟩, hN, hXs⟩ := hv
  have hx := B.exec
  have hb := B.bytes
  have hr := B.returns
  have hts := atoms_spec (ws := wsL_putAll) B.pre
  have hown : s.vm.findClass RL = some m.cls := findClass_of_methodNamed B.named
  have hlocks := B.notSynchronized
  have htab : c.exceptionTable.toList = [⟨0, 10, 13, 13⟩] := vx_table (x := yL_putAll) B (hts (.codeWith yL_putAll cL_putAll 5 (some .int) [(0, 10, 13, 13)]) (List.mem_cons_self))
  subst hsz
  have hD := hD0.self (sz := s.heap.size)
  generalize hAe : va_A (wH cJ b1 b0 bw bq bf bo w en pl cu li ld fb ou) s.heap.size = A at hD hXs ⊢
  have hA : ∀ q : Nat, s.heap.size ≤ q → A q := fun q h => by rw [← hAe]; exact Or.inr h
  have hS : va_S A s.heap s.heap [] := va_S.rf
  have hP : va_P (dC, dI) vwCl (wH cJ b1 b0 bw bq bf bo w en pl cu li ld fb ou) s.heap := hP
  have hl := lv_entry ([.ref b1, .int a1, .int a2, .ref bo]) (n := 5) (Nat.le_of_ble_eq_true rfl)
  rw [lg_entry_eq]
  generalize (lg_sl ([.ref b1, .int a1, .int a2, .ref bo]) ++ List.replicate (5 - (lg_sl ([.ref b1, .int a1, .int a2, .ref bo])).length) Slot.unset).toArray = ls at hl ⊢
  have hl : lv_has ls 5 [(0, .ref b1), (1, .int a1), (2, .int a2), (3, .ref bo)] := hl
  clear hD0 hAe
  unfold j_L_putAll at hj
  refine lv_aload_n hx hb dL_putAll_0 rfl (lv_at hl 3 rfl) ?_
  refine lv_iconst (v := (0 : Int32)) hx hb dL_putAll_1 (by decide) ?_
  refine lv_aload_n hx hb dL_putAll_2 rfl (lv_at hl 0 rfl) ?_
  refine lv_iload_n hx hb dL_putAll_3 rfl (lv_at hl 1 rfl) ?_
  refine lv_iload_n hx hb dL_putAll_4 rfl (lv_at hl 2 rfl) ?_
  obtain ⟨q, hc, hj⟩ := ja_bd hj
  rcases q with _ | ⟨v1, v2, v3⟩
  · try dsimp only at hj
    have hPc := hP.sub (ws' := (wC cJ b1 b0 bw bq bf w en pl cu li ld fb)) [0, 1, 2, 3, 4] rfl
    have hDc := hD.sub (ws' := (wC cJ b1 b0 bw bq bf w en pl cu li ld fb)) [0, 1, 2, 3, 4] (by decide) rfl
    have hFc := va_free (wc := (wC cJ b1 b0 bw bq bf w en pl cu li ld fb)) hD hS hA [0, 1, 2, 3, 4] rfl
    refine vx_calli (vx_runV (As := [.int a1, .int a2]) (rest := [.int (0 : Int32), .ref bo]) ⟨hx, hb, hml, hown, hts⟩ (x_X1_putAll l hlt dC dI cI cJ b1 b0 bw bq bf s.heap.size w en pl cu li ld fb a1 a2 hc) (cwV 2 hts gL_putAll_X1_putAll rfl rfl rfl (by decide +kernel) ⟨Nat.le_of_ble_eq_true rfl, Nat.le_of_ble_eq_true rfl⟩) ⟨fun a U g mk q => ⟨q.1, jPr.blind q.2.1, jNs.blind q.2.2.1, jXs.blind q.2.2.2⟩, va_recv hK hPc (ci := 1) (q0 := 0) rfl rfl, fun U hU hW => ⟨rfl, jPr.mk hU hW hPc hK hDc, jNs.warm hW hN, jXs.down hU hW hS hFc hXs⟩⟩ rfl rfl hl.1 rfl (lv_room (Nat.le_of_ble_eq_true rfl)) dL_putAll_5 ⟨Nat.le_of_ble_eq_true rfl, Nat.le_of_ble_eq_true rfl⟩) hS (fun q _ h => hFc q h) hFc (fun q _ h => hFc q h) (fun E ce q9 u t H1 locs ht hvm hpx hBX hz1 hk1 hS hce hcv hcl => ?_) (fun rr u t H1 locs1 ht hvm hw9 hB hz1 hk1 hS => hw9.elim)
    obtain ⟨rfl, hP1, hK1, hD1⟩ := hBX
    rw [ht] at hP1
    obtain ⟨hP, hD⟩ := va_join (wr := ([(bo, .inl (cJ, 1, .inr (.inl ou)))] : va_W)) (w1 := (wC cJ b1 b0 bw bq bf w en pl cu li ld fb)) hP hD [0, 1, 2, 3, 4] [5] rfl rfl (by decide) (by decide) hk1 hFc hP1 hD1
    replace hP := hP.sub (ws' := (wH cJ b1 b0 bw bq bf bo w en pl cu li ld fb ou)) [1, 2, 3, 4, 5, 0] rfl
    replace hD := hD.sub (ws' := (wH cJ b1 b0 bw bq bf bo w en pl cu li ld fb ou)) [1, 2, 3, 4, 5, 0] (by decide) rfl
    clear hk1 hP1 hK1 hD1 hvm hz1 hPc hDc hFc
    refine kx_catch (name := "java/lang/IllegalArgumentException") hown ⟨0, 10, 13, 13⟩ htab (by decide) (by decide) (hts (.classLink RL 13 "java/lang/IllegalArgumentException") (by decide +kernel)) (hXs.wA _ _ (List.mem_of_getElem? (i := 3) rfl)) hce hcv hcl ?_
    generalize H1 = H at hP hS ⊢
    have hP : va_P (dC, dI) vwCl (wH cJ b1 b0 bw bq bf bo w en pl cu li ld fb ou) H := hP
    have hD : va_D A (wH cJ b1 b0 bw bq bf bo w en pl cu li ld fb ou) := hD
    refine lv_astore (lv' := [(4, .ref q9), (0, .ref b1), (1, .int a1), (2, .int a2), (3, .ref bo)]) hx hb dL_putAll_13 hl (by decide) rfl (fun ls hl => ?_)
    refine lv_iconst (v := (1 : Int32)) hx hb dL_putAll_15 (by decide) ?_
    refine W.widen (k := 1) (n := 6) (by decide) (by decide) ?_
    have hr9 : ((1 : Int32), w, en, ou) = r := Option.some.inj hj
    subst hr9
    exact W.iret (v := (1 : Int32)) hx hb hr (fun t ht hW => ⟨⟨(1 : Int32), (), rfl, rfl, by rw [ht]; exact hP, va_K.moved hW.alike hK, hD⟩, hS.F ht⟩) hS.2.2 dL_putAll_16
  · try dsimp only at hj
    have hPc := hP.sub (ws' := (wC cJ b1 b0 bw bq bf w en pl cu li ld fb)) [0, 1, 2, 3, 4] rfl
    have hDc := hD.sub (ws' := (wC cJ b1 b0 bw bq bf w en pl cu li ld fb)) [0, 1, 2, 3, 4] (by decide) rfl
    have hFc := va_free (wc := (wC cJ b1 b0 bw bq bf w en pl cu li ld fb)) hD hS hA [0, 1, 2, 3, 4] rfl
    refine va_calli (va_runV (As := [.int a1, .int a2]) (rest := [.int (0 : Int32), .ref bo]) ⟨hx, hb, hml, hown, hts⟩ (c_X1_putAll l dC dI cI cJ b1 b0 bw bq bf s.heap.size w en pl cu li ld fb a1 a2 _ hc) (cwV 2 hts gL_putAll_X1_putAll rfl rfl rfl (by decide +kernel) ⟨Nat.le_of_ble_eq_true rfl, Nat.le_of_ble_eq_true rfl⟩) ⟨fun a U g mk q => ⟨q.1, jPr.blind q.2.1, jNs.blind q.2.2⟩, va_recv hK hPc (ci := 1) (q0 := 0) rfl rfl, fun U hU hW => ⟨rfl, jPr.mk hU hW hPc hK hDc, jNs.warm hW hN⟩⟩ rfl rfl hl.1 rfl (lv_room (Nat.le_of_ble_eq_true rfl)) dL_putAll_5 ⟨Nat.le_of_ble_eq_true rfl, Nat.le_of_ble_eq_true rfl⟩) hS (fun q _ h => hFc q h) hFc (fun rr u t H1 locs ht hvm hw9 hB hz1 hk1 hS => ?_)
    have hw8 : v1 = rr := hw9.symm
    subst hw8
    obtain ⟨hP1, hK1, hD1⟩ := hB
    rw [ht] at hP1
    obtain ⟨hP, hD⟩ := va_join (wr := ([(bo, .inl (cJ, 1, .inr (.inl ou)))] : va_W)) (w1 := (wC cJ b1 b0 bw bq bf v2 v3 pl cu li ld fb)) hP hD [0, 1, 2, 3, 4] [5] rfl rfl (by decide) (by decide) hk1 hFc hP1 hD1
    replace hP := hP.sub (ws' := (wH cJ b1 b0 bw bq bf bo v2 v3 pl cu li ld fb ou)) [1, 2, 3, 4, 5, 0] rfl
    replace hD := hD.sub (ws' := (wH cJ b1 b0 bw bq bf bo v2 v3 pl cu li ld fb ou)) [1, 2, 3, 4, 5, 0] (by decide) rfl
    clear hk1 hP1 hK1 hD1 hvm hz1 hPc hDc hFc
    generalize H1 = H at hP hS ⊢
    have hP : va_P (dC, dI) vwCl (wH cJ b1 b0 bw bq bf bo v2 v3 pl cu li ld fb ou) H := hP
    have hD : va_D A (wH cJ b1 b0 bw bq bf bo v2 v3 pl cu li ld fb ou) := hD
    refine lv_i2l hx hb dL_putAll_8 rfl ?_
    obtain ⟨hin, hj⟩ := ja_ix hj
    refine va_last hx hb hK hP hD hS 5 1 rfl rfl hin dL_putAll_9 (fun H locs hP hD hS => ?_)
    have hP : va_P (dC, dI) vwCl (wH cJ b1 b0 bw bq bf bo v2 v3 pl cu li ld fb (vp_updL ou (0 : Int32).toNatClampNeg v1.toInt64)) H := hP
    have hD : va_D A (wH cJ b1 b0 bw bq bf bo v2 v3 pl cu li ld fb (vp_updL ou (0 : Int32).toNatClampNeg v1.toInt64)) := hD
    refine lv_goto (tgt := 17) hx hb dL_putAll_10 (by decide) ?_
    refine lv_iconst (v := (0 : Int32)) hx hb dL_putAll_17 (by decide) ?_
    refine W.widen (k := 1) (n := 6) (by decide) (by decide) ?_
    have hr9 : ((0 : Int32), v2, v3, vp_updL ou (0 : Int32).toNatClampNeg v1.toInt64) = r := Option.some.inj hj
    subst hr9
    exact W.iret (v := (0 : Int32)) hx hb hr (fun t ht hW => ⟨⟨(0 : Int32), (), rfl, rfl, by rw [ht]; exact hP, va_K.moved hW.alike hK, hD⟩, hS.F ht⟩) hS.2.2 dL_putAll_18

def j_L_takeAll (w : Nat → Int64) (en : Int32) (pl : Int32) (cu : Int32) (li : Nat → Int64) (ld : Int32) (fb : Nat → Int64) (ou : Nat → Int64) (a1 : Int32) (a2 : Int32) : Option (Int32 × Int32 × Int32 × (Nat → Int64) × Int32 × (Nat → Int64)) :=
  (j_X1_takeAll w en pl cu li ld fb a1 a2).bind fun q => match q with
    | none => some ((1 : Int32), pl, cu, li, ld, ou)
    | some (v1, v2, v3, v4, v5) => (jix (0 : Int32) 1 (some ((0 : Int32), v2, v3, v4, v5, vp_updL ou (0 : Int32).toNatClampNeg v1.toInt64)))
set_option maxHeartbeats 4000000 in
set_option maxRecDepth 100000 in
theorem c_L_takeAll (l : Launch) (hlt : l.stackTraces = false) (dC : Nat → ClassId) (dI : Nat → Nat → Nat) (cI cJ : ClassId) (b1 : Nat) (b0 : Nat) (bw : Nat) (bq : Nat) (bf : Nat) (bo : Nat) (sz : Nat) (w : Nat → Int64) (en : Int32) (pl : Int32) (cu : Int32) (li : Nat → Int64) (ld : Int32) (fb : Nat → Int64) (ou : Nat → Int64) (a1 : Int32) (a2 : Int32) (r : Int32 × Int32 × Int32 × (Nat → Int64) × Int32 × (Nat → Int64)) (hj : j_L_takeAll w en pl cu li ld fb ou a1 a2 = some r) : Met l yL_takeAll wsL_takeAll ({ frames := 8, cells := 1, slots := 6, locals := 183 } : Room) (va_Pc [.ref b1, .int a1, .int a2, .ref bo] (fun U => jPr dC dI cI cJ (wH cJ b1 b0 bw bq bf bo w en pl cu li ld fb ou) sz U ∧ jNs U ∧ jXs (va_A (wH cJ b1 b0 bw bq bf bo w en pl cu li ld fb ou) sz) U)) (va_Qi (fun (v : Int32) (_ : Unit) => v = r.1) (fun (_ : Unit) t => jPo dC dI cI cJ (wH cJ b1 b0 bw bq bf bo w en r.2.1 r.2.2.1 r.2.2.2.1 r.2.2.2.2.1 fb r.2.2.2.2.2) (va_A (wH cJ b1 b0 bw bq bf bo w en pl cu li ld fb ou) sz) t) (va_A (wH cJ b1 b0 bw bq bf bo w en pl cu li ld fb ou) sz)) 1 6 (va_A (wH cJ b1 b0 bw bq bf bo w en pl cu li ld fb ou) sz) := by
  refine va_MetW (cc := cL_takeAll) (maxL := 5) (ret := (some .int)) (hh := [(0, 10, 13, 13)]) (by decide) rfl ?_
  intro p e s m args below meth c s₁ B hml hv
  obtain ⟨rfl, ⟨hsz, hP, hK, hD0⟩, hN, hXs⟩ := hv
  have hx := B.exec
  have hb := B.bytes
  have hr := B.returns
  have hts := atoms_spec (ws := wsL_takeAll) B.pre
  have hown : s.vm.findClass RL = some m.cls := findClass_of_methodNamed B.named
  have hlocks := B.notSynchronized
  have htab : c.exceptionTable.toList = [⟨0, 10, 13, 13⟩] := vx_table (x := yL_takeAll) B (hts (.codeWith yL_takeAll cL_takeAll 5 (some .int) [(0, 10, 13, 13)]) (List.mem_cons_self))
  subst hsz
  have hD := hD0.self (sz := s.heap.size)
  generalize hAe : va_A (wH cJ b1 b0 bw bq bf bo w en pl cu li ld fb ou) s.heap.size = A at hD hXs ⊢
  have hA : ∀ q : Nat, s.heap.size ≤ q → A q := fun q h => by rw [← hAe]; exact Or.inr h
  have hS : va_S A s.heap s.heap [] := va_S.rf
  have hP : va_P (dC, dI) vwCl (wH cJ b1 b0 bw bq bf bo w en pl cu li ld fb ou) s.heap := hP
  have hl := lv_entry ([.ref b1, .int a1, .int a2, .ref bo]) (n := 5) (Nat.le_of_ble_eq_true rfl)
  rw [lg_entry_eq]
  generalize (lg_sl ([.ref b1, .int a1, .int a2, .ref bo]) ++ List.replicate (5 - (lg_sl ([.ref b1, .int a1, .int a2, .ref bo])).length) Slot.unset).toArray = ls at hl ⊢
  have hl : lv_has ls 5 [(0, .ref b1), (1, .int a1), (2, .int a2), (3, .ref bo)] := hl
  clear hD0 hAe
  unfold j_L_takeAll at hj
  refine lv_aload_n hx hb dL_takeAll_0 rfl (lv_at hl 3 rfl) ?_
  refine lv_iconst (v := (0 : Int32)) hx hb dL_takeAll_1 (by decide) ?_
  refine lv_aload_n hx hb dL_takeAll_2 rfl (lv_at hl 0 rfl) ?_
  refine lv_iload_n hx hb dL_takeAll_3 rfl (lv_at hl 1 rfl) ?_
  refine lv_iload_n hx hb dL_takeAll_4 rfl (lv_at hl 2 rfl) ?_
  obtain ⟨q, hc, hj⟩ := ja_bd hj
  rcases q with _ | ⟨v1, v2, v3, v4, v5⟩
  · try dsimp only at hj
    have hPc := hP.sub (ws' := (wC cJ b1 b0 bw bq bf w en pl cu li ld fb)) [0, 1, 2, 3, 4] rfl
    have hDc := hD.sub (ws' := (wC cJ b1 b0 bw bq bf w en pl cu li ld fb)) [0, 1, 2, 3, 4] (by decide) rfl
    have hFc := va_free (wc := (wC cJ b1 b0 bw bq bf w en pl cu li ld fb)) hD hS hA [0, 1, 2, 3, 4] rfl
    refine vx_calli (vx_runV (As := [.int a1, .int a2]) (rest := [.int (0 : Int32), .ref bo]) ⟨hx, hb, hml, hown, hts⟩ (x_X1_takeAll l hlt dC dI cI cJ b1 b0 bw bq bf s.heap.size w en pl cu li ld fb a1 a2 hc) (cwV 2 hts gL_takeAll_X1_takeAll rfl rfl rfl (by decide +kernel) ⟨Nat.le_of_ble_eq_true rfl, Nat.le_of_ble_eq_true rfl⟩) ⟨fun a U g mk q => ⟨q.1, jPr.blind q.2.1, jNs.blind q.2.2.1, jXs.blind q.2.2.2⟩, va_recv hK hPc (ci := 1) (q0 := 0) rfl rfl, fun U hU hW => ⟨rfl, jPr.mk hU hW hPc hK hDc, jNs.warm hW hN, jXs.down hU hW hS hFc hXs⟩⟩ rfl rfl hl.1 rfl (lv_room (Nat.le_of_ble_eq_true rfl)) dL_takeAll_5 ⟨Nat.le_of_ble_eq_true rfl, Nat.le_of_ble_eq_true rfl⟩) hS (fun q _ h => hFc q h) hFc (fun q _ h => hFc q h) (fun E ce q9 u t H1 locs ht hvm hpx hBX hz1 hk1 hS hce hcv hcl => ?_) (fun rr u t H1 locs1 ht hvm hw9 hB hz1 hk1 hS => hw9.elim)
    obtain ⟨rfl, hP1, hK1, hD1⟩ := hBX
    rw [ht] at hP1
    obtain ⟨hP, hD⟩ := va_join (wr := ([(bo, .inl (cJ, 1, .inr (.inl ou)))] : va_W)) (w1 := (wC cJ b1 b0 bw bq bf w en pl cu li ld fb)) hP hD [0, 1, 2, 3, 4] [5] rfl rfl (by decide) (by decide) hk1 hFc hP1 hD1
    replace hP := hP.sub (ws' := (wH cJ b1 b0 bw bq bf bo w en pl cu li ld fb ou)) [1, 2, 3, 4, 5, 0] rfl
    replace hD := hD.sub (ws' := (wH cJ b1 b0 bw bq bf bo w en pl cu li ld fb ou)) [1, 2, 3, 4, 5, 0] (by decide) rfl
    clear hk1 hP1 hK1 hD1 hvm hz1 hPc hDc hFc
    refine kx_catch (name := "java/lang/IllegalArgumentException") hown ⟨0, 10, 13, 13⟩ htab (by decide) (by decide) (hts (.classLink RL 13 "java/lang/IllegalArgumentException") (by decide +kernel)) (hXs.wA _ _ (List.mem_of_getElem? (i := 3) rfl)) hce hcv hcl ?_
    generalize H1 = H at hP hS ⊢
    have hP : va_P (dC, dI) vwCl (wH cJ b1 b0 bw bq bf bo w en pl cu li ld fb ou) H := hP
    have hD : va_D A (wH cJ b1 b0 bw bq bf bo w en pl cu li ld fb ou) := hD
    refine lv_astore (lv' := [(4, .ref q9), (0, .ref b1), (1, .int a1), (2, .int a2), (3, .ref bo)]) hx hb dL_takeAll_13 hl (by decide) rfl (fun ls hl => ?_)
    refine lv_iconst (v := (1 : Int32)) hx hb dL_takeAll_15 (by decide) ?_
    refine W.widen (k := 1) (n := 6) (by decide) (by decide) ?_
    have hr9 : ((1 : Int32), pl, cu, li, ld, ou) = r := Option.some.inj hj
    subst hr9
    exact W.iret (v := (1 : Int32)) hx hb hr (fun t ht hW => ⟨⟨(1 : Int32), (), rfl, rfl, by rw [ht]; exact hP, va_K.moved hW.alike hK, hD⟩, hS.F ht⟩) hS.2.2 dL_takeAll_16
  · try dsimp only at hj
    have hPc := hP.sub (ws' := (wC cJ b1 b0 bw bq bf w en pl cu li ld fb)) [0, 1, 2, 3, 4] rfl
    have hDc := hD.sub (ws' := (wC cJ b1 b0 bw bq bf w en pl cu li ld fb)) [0, 1, 2, 3, 4] (by decide) rfl
    have hFc := va_free (wc := (wC cJ b1 b0 bw bq bf w en pl cu li ld fb)) hD hS hA [0, 1, 2, 3, 4] rfl
    refine va_calli (va_runV (As := [.int a1, .int a2]) (rest := [.int (0 : Int32), .ref bo]) ⟨hx, hb, hml, hown, hts⟩ (c_X1_takeAll l dC dI cI cJ b1 b0 bw bq bf s.heap.size w en pl cu li ld fb a1 a2 _ hc) (cwV 2 hts gL_takeAll_X1_takeAll rfl rfl rfl (by decide +kernel) ⟨Nat.le_of_ble_eq_true rfl, Nat.le_of_ble_eq_true rfl⟩) ⟨fun a U g mk q => ⟨q.1, jPr.blind q.2.1, jNs.blind q.2.2⟩, va_recv hK hPc (ci := 1) (q0 := 0) rfl rfl, fun U hU hW => ⟨rfl, jPr.mk hU hW hPc hK hDc, jNs.warm hW hN⟩⟩ rfl rfl hl.1 rfl (lv_room (Nat.le_of_ble_eq_true rfl)) dL_takeAll_5 ⟨Nat.le_of_ble_eq_true rfl, Nat.le_of_ble_eq_true rfl⟩) hS (fun q _ h => hFc q h) hFc (fun rr u t H1 locs ht hvm hw9 hB hz1 hk1 hS => ?_)
    have hw8 : v1 = rr := hw9.symm
    subst hw8
    obtain ⟨hP1, hK1, hD1⟩ := hB
    rw [ht] at hP1
    obtain ⟨hP, hD⟩ := va_join (wr := ([(bo, .inl (cJ, 1, .inr (.inl ou)))] : va_W)) (w1 := (wC cJ b1 b0 bw bq bf w en v2 v3 v4 v5 fb)) hP hD [0, 1, 2, 3, 4] [5] rfl rfl (by decide) (by decide) hk1 hFc hP1 hD1
    replace hP := hP.sub (ws' := (wH cJ b1 b0 bw bq bf bo w en v2 v3 v4 v5 fb ou)) [1, 2, 3, 4, 5, 0] rfl
    replace hD := hD.sub (ws' := (wH cJ b1 b0 bw bq bf bo w en v2 v3 v4 v5 fb ou)) [1, 2, 3, 4, 5, 0] (by decide) rfl
    clear hk1 hP1 hK1 hD1 hvm hz1 hPc hDc hFc
    generalize H1 = H at hP hS ⊢
    have hP : va_P (dC, dI) vwCl (wH cJ b1 b0 bw bq bf bo w en v2 v3 v4 v5 fb ou) H := hP
    have hD : va_D A (wH cJ b1 b0 bw bq bf bo w en v2 v3 v4 v5 fb ou) := hD
    refine lv_i2l hx hb dL_takeAll_8 rfl ?_
    obtain ⟨hin, hj⟩ := ja_ix hj
    refine va_last hx hb hK hP hD hS 5 1 rfl rfl hin dL_takeAll_9 (fun H locs hP hD hS => ?_)
    have hP : va_P (dC, dI) vwCl (wH cJ b1 b0 bw bq bf bo w en v2 v3 v4 v5 fb (vp_updL ou (0 : Int32).toNatClampNeg v1.toInt64)) H := hP
    have hD : va_D A (wH cJ b1 b0 bw bq bf bo w en v2 v3 v4 v5 fb (vp_updL ou (0 : Int32).toNatClampNeg v1.toInt64)) := hD
    refine lv_goto (tgt := 17) hx hb dL_takeAll_10 (by decide) ?_
    refine lv_iconst (v := (0 : Int32)) hx hb dL_takeAll_17 (by decide) ?_
    refine W.widen (k := 1) (n := 6) (by decide) (by decide) ?_
    have hr9 : ((0 : Int32), v2, v3, v4, v5, vp_updL ou (0 : Int32).toNatClampNeg v1.toInt64) = r := Option.some.inj hj
    subst hr9
    exact W.iret (v := (0 : Int32)) hx hb hr (fun t ht hW => ⟨⟨(0 : Int32), (), rfl, rfl, by rw [ht]; exact hP, va_K.moved hW.alike hK, hD⟩, hS.F ht⟩) hS.2.2 dL_takeAll_18

def j_L_count (fb : Nat → Int64) (ou : Nat → Int64) (a1 : Int32) (a2 : Int32) (a3 : Int32) : Option (Int32 × (Nat → Int64)) :=
  (j_X1_count fb a1 a2 a3).bind fun q => match q with
    | none => some ((1 : Int32), ou)
    | some v1 => (jix (0 : Int32) 1 (some ((0 : Int32), vp_updL ou (0 : Int32).toNatClampNeg v1)))
set_option maxHeartbeats 4000000 in
set_option maxRecDepth 100000 in
theorem c_L_count (l : Launch) (hlt : l.stackTraces = false) (dC : Nat → ClassId) (dI : Nat → Nat → Nat) (cI cJ : ClassId) (b1 : Nat) (b0 : Nat) (bw : Nat) (bq : Nat) (bf : Nat) (bo : Nat) (sz : Nat) (w : Nat → Int64) (en : Int32) (pl : Int32) (cu : Int32) (li : Nat → Int64) (ld : Int32) (fb : Nat → Int64) (ou : Nat → Int64) (a1 : Int32) (a2 : Int32) (a3 : Int32) (r : Int32 × (Nat → Int64)) (hj : j_L_count fb ou a1 a2 a3 = some r) : Met l yL_count wsL_count ({ frames := 8, cells := 1, slots := 6, locals := 188 } : Room) (va_Pc [.ref b1, .int a1, .int a2, .int a3, .ref bo] (fun U => jPr dC dI cI cJ (wH cJ b1 b0 bw bq bf bo w en pl cu li ld fb ou) sz U ∧ jNs U ∧ jXs (va_A (wH cJ b1 b0 bw bq bf bo w en pl cu li ld fb ou) sz) U)) (va_Qi (fun (v : Int32) (_ : Unit) => v = r.1) (fun (_ : Unit) t => jPo dC dI cI cJ (wH cJ b1 b0 bw bq bf bo w en pl cu li ld fb r.2) (va_A (wH cJ b1 b0 bw bq bf bo w en pl cu li ld fb ou) sz) t) (va_A (wH cJ b1 b0 bw bq bf bo w en pl cu li ld fb ou) sz)) 1 6 (va_A (wH cJ b1 b0 bw bq bf bo w en pl cu li ld fb ou) sz) := by
  refine va_MetW (cc := cL_count) (maxL := 6) (ret := (some .int)) (hh := [(0, 11, 14, 13)]) (by decide) rfl ?_
  intro p e s m args below meth c s₁ B hml hv
  obtain ⟨rfl, ⟨hsz, hP, hK, hD0⟩, hN, hXs⟩ := hv
  have hx := B.exec
  have hb := B.bytes
  have hr := B.returns
  have hts := atoms_spec (ws := wsL_count) B.pre
  have hown : s.vm.findClass RL = some m.cls := findClass_of_methodNamed B.named
  have hlocks := B.notSynchronized
  have htab : c.exceptionTable.toList = [⟨0, 11, 14, 13⟩] := vx_table (x := yL_count) B (hts (.codeWith yL_count cL_count 6 (some .int) [(0, 11, 14, 13)]) (List.mem_cons_self))
  subst hsz
  have hD := hD0.self (sz := s.heap.size)
  generalize hAe : va_A (wH cJ b1 b0 bw bq bf bo w en pl cu li ld fb ou) s.heap.size = A at hD hXs ⊢
  have hA : ∀ q : Nat, s.heap.size ≤ q → A q := fun q h => by rw [← hAe]; exact Or.inr h
  have hS : va_S A s.heap s.heap [] := va_S.rf
  have hP : va_P (dC, dI) vwCl (wH cJ b1 b0 bw bq bf bo w en pl cu li ld fb ou) s.heap := hP
  have hl := lv_entry ([.ref b1, .int a1, .int a2, .int a3, .ref bo]) (n := 6) (Nat.le_of_ble_eq_true rfl)
  rw [lg_entry_eq]
  generalize (lg_sl ([.ref b1, .int a1, .int a2, .int a3, .ref bo]) ++ List.replicate (6 - (lg_sl ([.ref b1, .int a1, .int a2, .int a3, .ref bo])).length) Slot.unset).toArray = ls at hl ⊢
  have hl : lv_has ls 6 [(0, .ref b1), (1, .int a1), (2, .int a2), (3, .int a3), (4, .ref bo)] := hl
  clear hD0 hAe
  unfold j_L_count at hj
  refine lv_aload hx hb dL_count_0 (lv_at hl 4 rfl) ?_
  refine lv_iconst (v := (0 : Int32)) hx hb dL_count_2 (by decide) ?_
  refine lv_aload_n hx hb dL_count_3 rfl (lv_at hl 0 rfl) ?_
  refine lv_iload_n hx hb dL_count_4 rfl (lv_at hl 1 rfl) ?_
  refine lv_iload_n hx hb dL_count_5 rfl (lv_at hl 2 rfl) ?_
  refine lv_iload_n hx hb dL_count_6 rfl (lv_at hl 3 rfl) ?_
  obtain ⟨q, hc, hj⟩ := ja_bd hj
  rcases q with _ | v1
  · try dsimp only at hj
    have hPc := hP.sub (ws' := (wC cJ b1 b0 bw bq bf w en pl cu li ld fb)) [0, 1, 2, 3, 4] rfl
    have hDc := hD.sub (ws' := (wC cJ b1 b0 bw bq bf w en pl cu li ld fb)) [0, 1, 2, 3, 4] (by decide) rfl
    have hFc := va_free (wc := (wC cJ b1 b0 bw bq bf w en pl cu li ld fb)) hD hS hA [0, 1, 2, 3, 4] rfl
    refine vx_calll (vx_runV (As := [.int a1, .int a2, .int a3]) (rest := [.int (0 : Int32), .ref bo]) ⟨hx, hb, hml, hown, hts⟩ (x_X1_count l hlt dC dI cI cJ b1 b0 bw bq bf s.heap.size w en pl cu li ld fb a1 a2 a3 hc) (cwV 3 hts gL_count_X1_count rfl rfl rfl (by decide +kernel) ⟨Nat.le_of_ble_eq_true rfl, Nat.le_of_ble_eq_true rfl⟩) ⟨fun a U g mk q => ⟨q.1, jPr.blind q.2.1, jNs.blind q.2.2.1, jXs.blind q.2.2.2⟩, va_recv hK hPc (ci := 1) (q0 := 0) rfl rfl, fun U hU hW => ⟨rfl, jPr.mk hU hW hPc hK hDc, jNs.warm hW hN, jXs.down hU hW hS hFc hXs⟩⟩ rfl rfl hl.1 rfl (lv_room (Nat.le_of_ble_eq_true rfl)) dL_count_7 ⟨Nat.le_of_ble_eq_true rfl, Nat.le_of_ble_eq_true rfl⟩) hS (fun q _ h => hFc q h) hFc (fun q _ h => hFc q h) (fun E ce q9 u t H1 locs ht hvm hpx hBX hz1 hk1 hS hce hcv hcl => ?_) (fun rr u t H1 locs1 ht hvm hw9 hB hz1 hk1 hS => hw9.elim)
    obtain ⟨rfl, hP1, hK1, hD1⟩ := hBX
    rw [ht] at hP1
    obtain ⟨hP, hD⟩ := va_join (wr := ([(bo, .inl (cJ, 1, .inr (.inl ou)))] : va_W)) (w1 := (wC cJ b1 b0 bw bq bf w en pl cu li ld fb)) hP hD [0, 1, 2, 3, 4] [5] rfl rfl (by decide) (by decide) hk1 hFc hP1 hD1
    replace hP := hP.sub (ws' := (wH cJ b1 b0 bw bq bf bo w en pl cu li ld fb ou)) [1, 2, 3, 4, 5, 0] rfl
    replace hD := hD.sub (ws' := (wH cJ b1 b0 bw bq bf bo w en pl cu li ld fb ou)) [1, 2, 3, 4, 5, 0] (by decide) rfl
    clear hk1 hP1 hK1 hD1 hvm hz1 hPc hDc hFc
    refine kx_catch (name := "java/lang/IllegalArgumentException") hown ⟨0, 11, 14, 13⟩ htab (by decide) (by decide) (hts (.classLink RL 13 "java/lang/IllegalArgumentException") (by decide +kernel)) (hXs.wA _ _ (List.mem_of_getElem? (i := 3) rfl)) hce hcv hcl ?_
    generalize H1 = H at hP hS ⊢
    have hP : va_P (dC, dI) vwCl (wH cJ b1 b0 bw bq bf bo w en pl cu li ld fb ou) H := hP
    have hD : va_D A (wH cJ b1 b0 bw bq bf bo w en pl cu li ld fb ou) := hD
    refine lv_astore (lv' := [(5, .ref q9), (0, .ref b1), (1, .int a1), (2, .int a2), (3, .int a3), (4, .ref bo)]) hx hb dL_count_14 hl (by decide) rfl (fun ls hl => ?_)
    refine lv_iconst (v := (1 : Int32)) hx hb dL_count_16 (by decide) ?_
    refine W.widen (k := 1) (n := 6) (by decide) (by decide) ?_
    have hr9 : ((1 : Int32), ou) = r := Option.some.inj hj
    subst hr9
    exact W.iret (v := (1 : Int32)) hx hb hr (fun t ht hW => ⟨⟨(1 : Int32), (), rfl, rfl, by rw [ht]; exact hP, va_K.moved hW.alike hK, hD⟩, hS.F ht⟩) hS.2.2 dL_count_17
  · try dsimp only at hj
    have hPc := hP.sub (ws' := (wC cJ b1 b0 bw bq bf w en pl cu li ld fb)) [0, 1, 2, 3, 4] rfl
    have hDc := hD.sub (ws' := (wC cJ b1 b0 bw bq bf w en pl cu li ld fb)) [0, 1, 2, 3, 4] (by decide) rfl
    have hFc := va_free (wc := (wC cJ b1 b0 bw bq bf w en pl cu li ld fb)) hD hS hA [0, 1, 2, 3, 4] rfl
    refine va_calll (va_runV (As := [.int a1, .int a2, .int a3]) (rest := [.int (0 : Int32), .ref bo]) ⟨hx, hb, hml, hown, hts⟩ (c_X1_count l dC dI cI cJ b1 b0 bw bq bf s.heap.size w en pl cu li ld fb a1 a2 a3 _ hc) (cwV 3 hts gL_count_X1_count rfl rfl rfl (by decide +kernel) ⟨Nat.le_of_ble_eq_true rfl, Nat.le_of_ble_eq_true rfl⟩) ⟨fun a U g mk q => ⟨q.1, jPr.blind q.2.1, jNs.blind q.2.2⟩, va_recv hK hPc (ci := 1) (q0 := 0) rfl rfl, fun U hU hW => ⟨rfl, jPr.mk hU hW hPc hK hDc, jNs.warm hW hN⟩⟩ rfl rfl hl.1 rfl (lv_room (Nat.le_of_ble_eq_true rfl)) dL_count_7 ⟨Nat.le_of_ble_eq_true rfl, Nat.le_of_ble_eq_true rfl⟩) hS (fun q _ h => hFc q h) hFc (fun rr u t H1 locs ht hvm hw9 hB hz1 hk1 hS => ?_)
    have hw8 : v1 = rr := hw9.symm
    subst hw8
    obtain ⟨hP1, hK1, hD1⟩ := hB
    rw [ht] at hP1
    obtain ⟨hP, hD⟩ := va_join (wr := ([(bo, .inl (cJ, 1, .inr (.inl ou)))] : va_W)) (w1 := (wC cJ b1 b0 bw bq bf w en pl cu li ld fb)) hP hD [0, 1, 2, 3, 4] [5] rfl rfl (by decide) (by decide) hk1 hFc hP1 hD1
    replace hP := hP.sub (ws' := (wH cJ b1 b0 bw bq bf bo w en pl cu li ld fb ou)) [1, 2, 3, 4, 5, 0] rfl
    replace hD := hD.sub (ws' := (wH cJ b1 b0 bw bq bf bo w en pl cu li ld fb ou)) [1, 2, 3, 4, 5, 0] (by decide) rfl
    clear hk1 hP1 hK1 hD1 hvm hz1 hPc hDc hFc
    generalize H1 = H at hP hS ⊢
    have hP : va_P (dC, dI) vwCl (wH cJ b1 b0 bw bq bf bo w en pl cu li ld fb ou) H := hP
    have hD : va_D A (wH cJ b1 b0 bw bq bf bo w en pl cu li ld fb ou) := hD
    obtain ⟨hin, hj⟩ := ja_ix hj
    refine va_last hx hb hK hP hD hS 5 1 rfl rfl hin dL_count_10 (fun H locs hP hD hS => ?_)
    have hP : va_P (dC, dI) vwCl (wH cJ b1 b0 bw bq bf bo w en pl cu li ld fb (vp_updL ou (0 : Int32).toNatClampNeg v1)) H := hP
    have hD : va_D A (wH cJ b1 b0 bw bq bf bo w en pl cu li ld fb (vp_updL ou (0 : Int32).toNatClampNeg v1)) := hD
    refine lv_goto (tgt := 18) hx hb dL_count_11 (by decide) ?_
    refine lv_iconst (v := (0 : Int32)) hx hb dL_count_18 (by decide) ?_
    refine W.widen (k := 1) (n := 6) (by decide) (by decide) ?_
    have hr9 : ((0 : Int32), vp_updL ou (0 : Int32).toNatClampNeg v1) = r := Option.some.inj hj
    subst hr9
    exact W.iret (v := (0 : Int32)) hx hb hr (fun t ht hW => ⟨⟨(0 : Int32), (), rfl, rfl, by rw [ht]; exact hP, va_K.moved hW.alike hK, hD⟩, hS.F ht⟩) hS.2.2 dL_count_19

def j_L_first (fb : Nat → Int64) (ou : Nat → Int64) (a1 : Int32) (a2 : Int32) (a3 : Int32) : Option (Int32 × (Nat → Int64)) :=
  (j_X1_first fb a1 a2 a3).bind fun q => match q with
    | none => some ((1 : Int32), ou)
    | some v1 => (jix (0 : Int32) 1 (some ((0 : Int32), vp_updL ou (0 : Int32).toNatClampNeg v1)))
set_option maxHeartbeats 4000000 in
set_option maxRecDepth 100000 in
theorem c_L_first (l : Launch) (hlt : l.stackTraces = false) (dC : Nat → ClassId) (dI : Nat → Nat → Nat) (cI cJ : ClassId) (b1 : Nat) (b0 : Nat) (bw : Nat) (bq : Nat) (bf : Nat) (bo : Nat) (sz : Nat) (w : Nat → Int64) (en : Int32) (pl : Int32) (cu : Int32) (li : Nat → Int64) (ld : Int32) (fb : Nat → Int64) (ou : Nat → Int64) (a1 : Int32) (a2 : Int32) (a3 : Int32) (r : Int32 × (Nat → Int64)) (hj : j_L_first fb ou a1 a2 a3 = some r) : Met l yL_first wsL_first ({ frames := 8, cells := 1, slots := 6, locals := 191 } : Room) (va_Pc [.ref b1, .int a1, .int a2, .int a3, .ref bo] (fun U => jPr dC dI cI cJ (wH cJ b1 b0 bw bq bf bo w en pl cu li ld fb ou) sz U ∧ jNs U ∧ jXs (va_A (wH cJ b1 b0 bw bq bf bo w en pl cu li ld fb ou) sz) U)) (va_Qi (fun (v : Int32) (_ : Unit) => v = r.1) (fun (_ : Unit) t => jPo dC dI cI cJ (wH cJ b1 b0 bw bq bf bo w en pl cu li ld fb r.2) (va_A (wH cJ b1 b0 bw bq bf bo w en pl cu li ld fb ou) sz) t) (va_A (wH cJ b1 b0 bw bq bf bo w en pl cu li ld fb ou) sz)) 1 6 (va_A (wH cJ b1 b0 bw bq bf bo w en pl cu li ld fb ou) sz) := by
  refine va_MetW (cc := cL_first) (maxL := 6) (ret := (some .int)) (hh := [(0, 11, 14, 13)]) (by decide) rfl ?_
  intro p e s m args below meth c s₁ B hml hv
  obtain ⟨rfl, ⟨hsz, hP, hK, hD0⟩, hN, hXs⟩ := hv
  have hx := B.exec
  have hb := B.bytes
  have hr := B.returns
  have hts := atoms_spec (ws := wsL_first) B.pre
  have hown : s.vm.findClass RL = some m.cls := findClass_of_methodNamed B.named
  have hlocks := B.notSynchronized
  have htab : c.exceptionTable.toList = [⟨0, 11, 14, 13⟩] := vx_table (x := yL_first) B (hts (.codeWith yL_first cL_first 6 (some .int) [(0, 11, 14, 13)]) (List.mem_cons_self))
  subst hsz
  have hD := hD0.self (sz := s.heap.size)
  generalize hAe : va_A (wH cJ b1 b0 bw bq bf bo w en pl cu li ld fb ou) s.heap.size = A at hD hXs ⊢
  have hA : ∀ q : Nat, s.heap.size ≤ q → A q := fun q h => by rw [← hAe]; exact Or.inr h
  have hS : va_S A s.heap s.heap [] := va_S.rf
  have hP : va_P (dC, dI) vwCl (wH cJ b1 b0 bw bq bf bo w en pl cu li ld fb ou) s.heap := hP
  have hl := lv_entry ([.ref b1, .int a1, .int a2, .int a3, .ref bo]) (n := 6) (Nat.le_of_ble_eq_true rfl)
  rw [lg_entry_eq]
  generalize (lg_sl ([.ref b1, .int a1, .int a2, .int a3, .ref bo]) ++ List.replicate (6 - (lg_sl ([.ref b1, .int a1, .int a2, .int a3, .ref bo])).length) Slot.unset).toArray = ls at hl ⊢
  have hl : lv_has ls 6 [(0, .ref b1), (1, .int a1), (2, .int a2), (3, .int a3), (4, .ref bo)] := hl
  clear hD0 hAe
  unfold j_L_first at hj
  refine lv_aload hx hb dL_first_0 (lv_at hl 4 rfl) ?_
  refine lv_iconst (v := (0 : Int32)) hx hb dL_first_2 (by decide) ?_
  refine lv_aload_n hx hb dL_first_3 rfl (lv_at hl 0 rfl) ?_
  refine lv_iload_n hx hb dL_first_4 rfl (lv_at hl 1 rfl) ?_
  refine lv_iload_n hx hb dL_first_5 rfl (lv_at hl 2 rfl) ?_
  refine lv_iload_n hx hb dL_first_6 rfl (lv_at hl 3 rfl) ?_
  obtain ⟨q, hc, hj⟩ := ja_bd hj
  rcases q with _ | v1
  · try dsimp only at hj
    have hPc := hP.sub (ws' := (wC cJ b1 b0 bw bq bf w en pl cu li ld fb)) [0, 1, 2, 3, 4] rfl
    have hDc := hD.sub (ws' := (wC cJ b1 b0 bw bq bf w en pl cu li ld fb)) [0, 1, 2, 3, 4] (by decide) rfl
    have hFc := va_free (wc := (wC cJ b1 b0 bw bq bf w en pl cu li ld fb)) hD hS hA [0, 1, 2, 3, 4] rfl
    refine vx_calll (vx_runV (As := [.int a1, .int a2, .int a3]) (rest := [.int (0 : Int32), .ref bo]) ⟨hx, hb, hml, hown, hts⟩ (x_X1_first l hlt dC dI cI cJ b1 b0 bw bq bf s.heap.size w en pl cu li ld fb a1 a2 a3 hc) (cwV 3 hts gL_first_X1_first rfl rfl rfl (by decide +kernel) ⟨Nat.le_of_ble_eq_true rfl, Nat.le_of_ble_eq_true rfl⟩) ⟨fun a U g mk q => ⟨q.1, jPr.blind q.2.1, jNs.blind q.2.2.1, jXs.blind q.2.2.2⟩, va_recv hK hPc (ci := 1) (q0 := 0) rfl rfl, fun U hU hW => ⟨rfl, jPr.mk hU hW hPc hK hDc, jNs.warm hW hN, jXs.down hU hW hS hFc hXs⟩⟩ rfl rfl hl.1 rfl (lv_room (Nat.le_of_ble_eq_true rfl)) dL_first_7 ⟨Nat.le_of_ble_eq_true rfl, Nat.le_of_ble_eq_true rfl⟩) hS (fun q _ h => hFc q h) hFc (fun q _ h => hFc q h) (fun E ce q9 u t H1 locs ht hvm hpx hBX hz1 hk1 hS hce hcv hcl => ?_) (fun rr u t H1 locs1 ht hvm hw9 hB hz1 hk1 hS => hw9.elim)
    obtain ⟨rfl, hP1, hK1, hD1⟩ := hBX
    rw [ht] at hP1
    obtain ⟨hP, hD⟩ := va_join (wr := ([(bo, .inl (cJ, 1, .inr (.inl ou)))] : va_W)) (w1 := (wC cJ b1 b0 bw bq bf w en pl cu li ld fb)) hP hD [0, 1, 2, 3, 4] [5] rfl rfl (by decide) (by decide) hk1 hFc hP1 hD1
    replace hP := hP.sub (ws' := (wH cJ b1 b0 bw bq bf bo w en pl cu li ld fb ou)) [1, 2, 3, 4, 5, 0] rfl
    replace hD := hD.sub (ws' := (wH cJ b1 b0 bw bq bf bo w en pl cu li ld fb ou)) [1, 2, 3, 4, 5, 0] (by decide) rfl
    clear hk1 hP1 hK1 hD1 hvm hz1 hPc hDc hFc
    refine kx_catch (name := "java/lang/IllegalArgumentException") hown ⟨0, 11, 14, 13⟩ htab (by decide) (by decide) (hts (.classLink RL 13 "java/lang/IllegalArgumentException") (by decide +kernel)) (hXs.wA _ _ (List.mem_of_getElem? (i := 3) rfl)) hce hcv hcl ?_
    generalize H1 = H at hP hS ⊢
    have hP : va_P (dC, dI) vwCl (wH cJ b1 b0 bw bq bf bo w en pl cu li ld fb ou) H := hP
    have hD : va_D A (wH cJ b1 b0 bw bq bf bo w en pl cu li ld fb ou) := hD
    refine lv_astore (lv' := [(5, .ref q9), (0, .ref b1), (1, .int a1), (2, .int a2), (3, .int a3), (4, .ref bo)]) hx hb dL_first_14 hl (by decide) rfl (fun ls hl => ?_)
    refine lv_iconst (v := (1 : Int32)) hx hb dL_first_16 (by decide) ?_
    refine W.widen (k := 1) (n := 6) (by decide) (by decide) ?_
    have hr9 : ((1 : Int32), ou) = r := Option.some.inj hj
    subst hr9
    exact W.iret (v := (1 : Int32)) hx hb hr (fun t ht hW => ⟨⟨(1 : Int32), (), rfl, rfl, by rw [ht]; exact hP, va_K.moved hW.alike hK, hD⟩, hS.F ht⟩) hS.2.2 dL_first_17
  · try dsimp only at hj
    have hPc := hP.sub (ws' := (wC cJ b1 b0 bw bq bf w en pl cu li ld fb)) [0, 1, 2, 3, 4] rfl
    have hDc := hD.sub (ws' := (wC cJ b1 b0 bw bq bf w en pl cu li ld fb)) [0, 1, 2, 3, 4] (by decide) rfl
    have hFc := va_free (wc := (wC cJ b1 b0 bw bq bf w en pl cu li ld fb)) hD hS hA [0, 1, 2, 3, 4] rfl
    refine va_calll (va_runV (As := [.int a1, .int a2, .int a3]) (rest := [.int (0 : Int32), .ref bo]) ⟨hx, hb, hml, hown, hts⟩ (c_X1_first l dC dI cI cJ b1 b0 bw bq bf s.heap.size w en pl cu li ld fb a1 a2 a3 _ hc) (cwV 3 hts gL_first_X1_first rfl rfl rfl (by decide +kernel) ⟨Nat.le_of_ble_eq_true rfl, Nat.le_of_ble_eq_true rfl⟩) ⟨fun a U g mk q => ⟨q.1, jPr.blind q.2.1, jNs.blind q.2.2⟩, va_recv hK hPc (ci := 1) (q0 := 0) rfl rfl, fun U hU hW => ⟨rfl, jPr.mk hU hW hPc hK hDc, jNs.warm hW hN⟩⟩ rfl rfl hl.1 rfl (lv_room (Nat.le_of_ble_eq_true rfl)) dL_first_7 ⟨Nat.le_of_ble_eq_true rfl, Nat.le_of_ble_eq_true rfl⟩) hS (fun q _ h => hFc q h) hFc (fun rr u t H1 locs ht hvm hw9 hB hz1 hk1 hS => ?_)
    have hw8 : v1 = rr := hw9.symm
    subst hw8
    obtain ⟨hP1, hK1, hD1⟩ := hB
    rw [ht] at hP1
    obtain ⟨hP, hD⟩ := va_join (wr := ([(bo, .inl (cJ, 1, .inr (.inl ou)))] : va_W)) (w1 := (wC cJ b1 b0 bw bq bf w en pl cu li ld fb)) hP hD [0, 1, 2, 3, 4] [5] rfl rfl (by decide) (by decide) hk1 hFc hP1 hD1
    replace hP := hP.sub (ws' := (wH cJ b1 b0 bw bq bf bo w en pl cu li ld fb ou)) [1, 2, 3, 4, 5, 0] rfl
    replace hD := hD.sub (ws' := (wH cJ b1 b0 bw bq bf bo w en pl cu li ld fb ou)) [1, 2, 3, 4, 5, 0] (by decide) rfl
    clear hk1 hP1 hK1 hD1 hvm hz1 hPc hDc hFc
    generalize H1 = H at hP hS ⊢
    have hP : va_P (dC, dI) vwCl (wH cJ b1 b0 bw bq bf bo w en pl cu li ld fb ou) H := hP
    have hD : va_D A (wH cJ b1 b0 bw bq bf bo w en pl cu li ld fb ou) := hD
    obtain ⟨hin, hj⟩ := ja_ix hj
    refine va_last hx hb hK hP hD hS 5 1 rfl rfl hin dL_first_10 (fun H locs hP hD hS => ?_)
    have hP : va_P (dC, dI) vwCl (wH cJ b1 b0 bw bq bf bo w en pl cu li ld fb (vp_updL ou (0 : Int32).toNatClampNeg v1)) H := hP
    have hD : va_D A (wH cJ b1 b0 bw bq bf bo w en pl cu li ld fb (vp_updL ou (0 : Int32).toNatClampNeg v1)) := hD
    refine lv_goto (tgt := 18) hx hb dL_first_11 (by decide) ?_
    refine lv_iconst (v := (0 : Int32)) hx hb dL_first_18 (by decide) ?_
    refine W.widen (k := 1) (n := 6) (by decide) (by decide) ?_
    have hr9 : ((0 : Int32), vp_updL ou (0 : Int32).toNatClampNeg v1) = r := Option.some.inj hj
    subst hr9
    exact W.iret (v := (0 : Int32)) hx hb hr (fun t ht hW => ⟨⟨(0 : Int32), (), rfl, rfl, by rw [ht]; exact hP, va_K.moved hW.alike hK, hD⟩, hS.F ht⟩) hS.2.2 dL_first_19

def j_L_begun (fb : Nat → Int64) (ou : Nat → Int64) (a1 : Int32) (a2 : Int32) (a3 : Int32) : Option (Int32 × (Nat → Int64)) :=
  (j_X1_begun fb a1 a2 a3).bind fun q => match q with
    | none => some ((1 : Int32), ou)
    | some v1 => (jix (0 : Int32) 1 (some ((0 : Int32), vp_updL ou (0 : Int32).toNatClampNeg v1)))
set_option maxHeartbeats 4000000 in
set_option maxRecDepth 100000 in
theorem c_L_begun (l : Launch) (hlt : l.stackTraces = false) (dC : Nat → ClassId) (dI : Nat → Nat → Nat) (cI cJ : ClassId) (b1 : Nat) (b0 : Nat) (bw : Nat) (bq : Nat) (bf : Nat) (bo : Nat) (sz : Nat) (w : Nat → Int64) (en : Int32) (pl : Int32) (cu : Int32) (li : Nat → Int64) (ld : Int32) (fb : Nat → Int64) (ou : Nat → Int64) (a1 : Int32) (a2 : Int32) (a3 : Int32) (r : Int32 × (Nat → Int64)) (hj : j_L_begun fb ou a1 a2 a3 = some r) : Met l yL_begun wsL_begun ({ frames := 8, cells := 1, slots := 6, locals := 195 } : Room) (va_Pc [.ref b1, .int a1, .int a2, .int a3, .ref bo] (fun U => jPr dC dI cI cJ (wH cJ b1 b0 bw bq bf bo w en pl cu li ld fb ou) sz U ∧ jNs U ∧ jXs (va_A (wH cJ b1 b0 bw bq bf bo w en pl cu li ld fb ou) sz) U)) (va_Qi (fun (v : Int32) (_ : Unit) => v = r.1) (fun (_ : Unit) t => jPo dC dI cI cJ (wH cJ b1 b0 bw bq bf bo w en pl cu li ld fb r.2) (va_A (wH cJ b1 b0 bw bq bf bo w en pl cu li ld fb ou) sz) t) (va_A (wH cJ b1 b0 bw bq bf bo w en pl cu li ld fb ou) sz)) 1 6 (va_A (wH cJ b1 b0 bw bq bf bo w en pl cu li ld fb ou) sz) := by
  refine va_MetW (cc := cL_begun) (maxL := 6) (ret := (some .int)) (hh := [(0, 11, 14, 13)]) (by decide) rfl ?_
  intro p e s m args below meth c s₁ B hml hv
  obtain ⟨rfl, ⟨hsz, hP, hK, hD0⟩, hN, hXs⟩ := hv
  have hx := B.exec
  have hb := B.bytes
  have hr := B.returns
  have hts := atoms_spec (ws := wsL_begun) B.pre
  have hown : s.vm.findClass RL = some m.cls := findClass_of_methodNamed B.named
  have hlocks := B.notSynchronized
  have htab : c.exceptionTable.toList = [⟨0, 11, 14, 13⟩] := vx_table (x := yL_begun) B (hts (.codeWith yL_begun cL_begun 6 (some .int) [(0, 11, 14, 13)]) (List.mem_cons_self))
  subst hsz
  have hD := hD0.self (sz := s.heap.size)
  generalize hAe : va_A (wH cJ b1 b0 bw bq bf bo w en pl cu li ld fb ou) s.heap.size = A at hD hXs ⊢
  have hA : ∀ q : Nat, s.heap.size ≤ q → A q := fun q h => by rw [← hAe]; exact Or.inr h
  have hS : va_S A s.heap s.heap [] := va_S.rf
  have hP : va_P (dC, dI) vwCl (wH cJ b1 b0 bw bq bf bo w en pl cu li ld fb ou) s.heap := hP
  have hl := lv_entry ([.ref b1, .int a1, .int a2, .int a3, .ref bo]) (n := 6) (Nat.le_of_ble_eq_true rfl)
  rw [lg_entry_eq]
  generalize (lg_sl ([.ref b1, .int a1, .int a2, .int a3, .ref bo]) ++ List.replicate (6 - (lg_sl ([.ref b1, .int a1, .int a2, .int a3, .ref bo])).length) Slot.unset).toArray = ls at hl ⊢
  have hl : lv_has ls 6 [(0, .ref b1), (1, .int a1), (2, .int a2), (3, .int a3), (4, .ref bo)] := hl
  clear hD0 hAe
  unfold j_L_begun at hj
  refine lv_aload hx hb dL_begun_0 (lv_at hl 4 rfl) ?_
  refine lv_iconst (v := (0 : Int32)) hx hb dL_begun_2 (by decide) ?_
  refine lv_aload_n hx hb dL_begun_3 rfl (lv_at hl 0 rfl) ?_
  refine lv_iload_n hx hb dL_begun_4 rfl (lv_at hl 1 rfl) ?_
  refine lv_iload_n hx hb dL_begun_5 rfl (lv_at hl 2 rfl) ?_
  refine lv_iload_n hx hb dL_begun_6 rfl (lv_at hl 3 rfl) ?_
  obtain ⟨q, hc, hj⟩ := ja_bd hj
  rcases q with _ | v1
  · try dsimp only at hj
    have hPc := hP.sub (ws' := (wC cJ b1 b0 bw bq bf w en pl cu li ld fb)) [0, 1, 2, 3, 4] rfl
    have hDc := hD.sub (ws' := (wC cJ b1 b0 bw bq bf w en pl cu li ld fb)) [0, 1, 2, 3, 4] (by decide) rfl
    have hFc := va_free (wc := (wC cJ b1 b0 bw bq bf w en pl cu li ld fb)) hD hS hA [0, 1, 2, 3, 4] rfl
    refine vx_calll (vx_runV (As := [.int a1, .int a2, .int a3]) (rest := [.int (0 : Int32), .ref bo]) ⟨hx, hb, hml, hown, hts⟩ (x_X1_begun l hlt dC dI cI cJ b1 b0 bw bq bf s.heap.size w en pl cu li ld fb a1 a2 a3 hc) (cwV 3 hts gL_begun_X1_begun rfl rfl rfl (by decide +kernel) ⟨Nat.le_of_ble_eq_true rfl, Nat.le_of_ble_eq_true rfl⟩) ⟨fun a U g mk q => ⟨q.1, jPr.blind q.2.1, jNs.blind q.2.2.1, jXs.blind q.2.2.2⟩, va_recv hK hPc (ci := 1) (q0 := 0) rfl rfl, fun U hU hW => ⟨rfl, jPr.mk hU hW hPc hK hDc, jNs.warm hW hN, jXs.down hU hW hS hFc hXs⟩⟩ rfl rfl hl.1 rfl (lv_room (Nat.le_of_ble_eq_true rfl)) dL_begun_7 ⟨Nat.le_of_ble_eq_true rfl, Nat.le_of_ble_eq_true rfl⟩) hS (fun q _ h => hFc q h) hFc (fun q _ h => hFc q h) (fun E ce q9 u t H1 locs ht hvm hpx hBX hz1 hk1 hS hce hcv hcl => ?_) (fun rr u t H1 locs1 ht hvm hw9 hB hz1 hk1 hS => hw9.elim)
    obtain ⟨rfl, hP1, hK1, hD1⟩ := hBX
    rw [ht] at hP1
    obtain ⟨hP, hD⟩ := va_join (wr := ([(bo, .inl (cJ, 1, .inr (.inl ou)))] : va_W)) (w1 := (wC cJ b1 b0 bw bq bf w en pl cu li ld fb)) hP hD [0, 1, 2, 3, 4] [5] rfl rfl (by decide) (by decide) hk1 hFc hP1 hD1
    replace hP := hP.sub (ws' := (wH cJ b1 b0 bw bq bf bo w en pl cu li ld fb ou)) [1, 2, 3, 4, 5, 0] rfl
    replace hD := hD.sub (ws' := (wH cJ b1 b0 bw bq bf bo w en pl cu li ld fb ou)) [1, 2, 3, 4, 5, 0] (by decide) rfl
    clear hk1 hP1 hK1 hD1 hvm hz1 hPc hDc hFc
    refine kx_catch (name := "java/lang/IllegalArgumentException") hown ⟨0, 11, 14, 13⟩ htab (by decide) (by decide) (hts (.classLink RL 13 "java/lang/IllegalArgumentException") (by decide +kernel)) (hXs.wA _ _ (List.mem_of_getElem? (i := 3) rfl)) hce hcv hcl ?_
    generalize H1 = H at hP hS ⊢
    have hP : va_P (dC, dI) vwCl (wH cJ b1 b0 bw bq bf bo w en pl cu li ld fb ou) H := hP
    have hD : va_D A (wH cJ b1 b0 bw bq bf bo w en pl cu li ld fb ou) := hD
    refine lv_astore (lv' := [(5, .ref q9), (0, .ref b1), (1, .int a1), (2, .int a2), (3, .int a3), (4, .ref bo)]) hx hb dL_begun_14 hl (by decide) rfl (fun ls hl => ?_)
    refine lv_iconst (v := (1 : Int32)) hx hb dL_begun_16 (by decide) ?_
    refine W.widen (k := 1) (n := 6) (by decide) (by decide) ?_
    have hr9 : ((1 : Int32), ou) = r := Option.some.inj hj
    subst hr9
    exact W.iret (v := (1 : Int32)) hx hb hr (fun t ht hW => ⟨⟨(1 : Int32), (), rfl, rfl, by rw [ht]; exact hP, va_K.moved hW.alike hK, hD⟩, hS.F ht⟩) hS.2.2 dL_begun_17
  · try dsimp only at hj
    have hPc := hP.sub (ws' := (wC cJ b1 b0 bw bq bf w en pl cu li ld fb)) [0, 1, 2, 3, 4] rfl
    have hDc := hD.sub (ws' := (wC cJ b1 b0 bw bq bf w en pl cu li ld fb)) [0, 1, 2, 3, 4] (by decide) rfl
    have hFc := va_free (wc := (wC cJ b1 b0 bw bq bf w en pl cu li ld fb)) hD hS hA [0, 1, 2, 3, 4] rfl
    refine va_calll (va_runV (As := [.int a1, .int a2, .int a3]) (rest := [.int (0 : Int32), .ref bo]) ⟨hx, hb, hml, hown, hts⟩ (c_X1_begun l dC dI cI cJ b1 b0 bw bq bf s.heap.size w en pl cu li ld fb a1 a2 a3 _ hc) (cwV 3 hts gL_begun_X1_begun rfl rfl rfl (by decide +kernel) ⟨Nat.le_of_ble_eq_true rfl, Nat.le_of_ble_eq_true rfl⟩) ⟨fun a U g mk q => ⟨q.1, jPr.blind q.2.1, jNs.blind q.2.2⟩, va_recv hK hPc (ci := 1) (q0 := 0) rfl rfl, fun U hU hW => ⟨rfl, jPr.mk hU hW hPc hK hDc, jNs.warm hW hN⟩⟩ rfl rfl hl.1 rfl (lv_room (Nat.le_of_ble_eq_true rfl)) dL_begun_7 ⟨Nat.le_of_ble_eq_true rfl, Nat.le_of_ble_eq_true rfl⟩) hS (fun q _ h => hFc q h) hFc (fun rr u t H1 locs ht hvm hw9 hB hz1 hk1 hS => ?_)
    have hw8 : v1 = rr := hw9.symm
    subst hw8
    obtain ⟨hP1, hK1, hD1⟩ := hB
    rw [ht] at hP1
    obtain ⟨hP, hD⟩ := va_join (wr := ([(bo, .inl (cJ, 1, .inr (.inl ou)))] : va_W)) (w1 := (wC cJ b1 b0 bw bq bf w en pl cu li ld fb)) hP hD [0, 1, 2, 3, 4] [5] rfl rfl (by decide) (by decide) hk1 hFc hP1 hD1
    replace hP := hP.sub (ws' := (wH cJ b1 b0 bw bq bf bo w en pl cu li ld fb ou)) [1, 2, 3, 4, 5, 0] rfl
    replace hD := hD.sub (ws' := (wH cJ b1 b0 bw bq bf bo w en pl cu li ld fb ou)) [1, 2, 3, 4, 5, 0] (by decide) rfl
    clear hk1 hP1 hK1 hD1 hvm hz1 hPc hDc hFc
    generalize H1 = H at hP hS ⊢
    have hP : va_P (dC, dI) vwCl (wH cJ b1 b0 bw bq bf bo w en pl cu li ld fb ou) H := hP
    have hD : va_D A (wH cJ b1 b0 bw bq bf bo w en pl cu li ld fb ou) := hD
    obtain ⟨hin, hj⟩ := ja_ix hj
    refine va_last hx hb hK hP hD hS 5 1 rfl rfl hin dL_begun_10 (fun H locs hP hD hS => ?_)
    have hP : va_P (dC, dI) vwCl (wH cJ b1 b0 bw bq bf bo w en pl cu li ld fb (vp_updL ou (0 : Int32).toNatClampNeg v1)) H := hP
    have hD : va_D A (wH cJ b1 b0 bw bq bf bo w en pl cu li ld fb (vp_updL ou (0 : Int32).toNatClampNeg v1)) := hD
    refine lv_goto (tgt := 18) hx hb dL_begun_11 (by decide) ?_
    refine lv_iconst (v := (0 : Int32)) hx hb dL_begun_18 (by decide) ?_
    refine W.widen (k := 1) (n := 6) (by decide) (by decide) ?_
    have hr9 : ((0 : Int32), vp_updL ou (0 : Int32).toNatClampNeg v1) = r := Option.some.inj hj
    subst hr9
    exact W.iret (v := (0 : Int32)) hx hb hr (fun t ht hW => ⟨⟨(0 : Int32), (), rfl, rfl, by rw [ht]; exact hP, va_K.moved hW.alike hK, hD⟩, hS.F ht⟩) hS.2.2 dL_begun_19

def j_L_fold (ou : Nat → Int64) (a1 : Int64) : Option (Int32 × (Nat → Int64)) :=
  (j_X1_fold a1).bind fun q => match q with
    | none => some ((1 : Int32), ou)
    | some v1 => (jix (0 : Int32) 1 (some ((0 : Int32), vp_updL ou (0 : Int32).toNatClampNeg v1)))
set_option maxHeartbeats 4000000 in
set_option maxRecDepth 100000 in
theorem c_L_fold (l : Launch) (hlt : l.stackTraces = false) (dC : Nat → ClassId) (dI : Nat → Nat → Nat) (cI cJ : ClassId) (b1 : Nat) (b0 : Nat) (bw : Nat) (bq : Nat) (bf : Nat) (bo : Nat) (sz : Nat) (w : Nat → Int64) (en : Int32) (pl : Int32) (cu : Int32) (li : Nat → Int64) (ld : Int32) (fb : Nat → Int64) (ou : Nat → Int64) (a1 : Int64) (r : Int32 × (Nat → Int64)) (hj : j_L_fold ou a1 = some r) : Met l yL_fold wsL_fold ({ frames := 7, cells := 1, slots := 6, locals := 104 } : Room) (va_Pc [.ref b1, .long a1, .ref bo] (fun U => jPr dC dI cI cJ (wH cJ b1 b0 bw bq bf bo w en pl cu li ld fb ou) sz U ∧ jNs U ∧ jXs (va_A (wH cJ b1 b0 bw bq bf bo w en pl cu li ld fb ou) sz) U)) (va_Qi (fun (v : Int32) (_ : Unit) => v = r.1) (fun (_ : Unit) t => jPo dC dI cI cJ (wH cJ b1 b0 bw bq bf bo w en pl cu li ld fb r.2) (va_A (wH cJ b1 b0 bw bq bf bo w en pl cu li ld fb ou) sz) t) (va_A (wH cJ b1 b0 bw bq bf bo w en pl cu li ld fb ou) sz)) 1 6 (va_A (wH cJ b1 b0 bw bq bf bo w en pl cu li ld fb ou) sz) := by
  refine va_MetW (cc := cL_fold) (maxL := 5) (ret := (some .int)) (hh := [(0, 8, 11, 13)]) (by decide) rfl ?_
  intro p e s m args below meth c s₁ B hml hv
  obtain ⟨rfl, ⟨hsz, hP, hK, hD0⟩, hN, hXs⟩ := hv
  have hx := B.exec
  have hb := B.bytes
  have hr := B.returns
  have hts := atoms_spec (ws := wsL_fold) B.pre
  have hown : s.vm.findClass RL = some m.cls := findClass_of_methodNamed B.named
  have hlocks := B.notSynchronized
  have htab : c.exceptionTable.toList = [⟨0, 8, 11, 13⟩] := vx_table (x := yL_fold) B (hts (.codeWith yL_fold cL_fold 5 (some .int) [(0, 8, 11, 13)]) (List.mem_cons_self))
  subst hsz
  have hD := hD0.self (sz := s.heap.size)
  generalize hAe : va_A (wH cJ b1 b0 bw bq bf bo w en pl cu li ld fb ou) s.heap.size = A at hD hXs ⊢
  have hA : ∀ q : Nat, s.heap.size ≤ q → A q := fun q h => by rw [← hAe]; exact Or.inr h
  have hS : va_S A s.heap s.heap [] := va_S.rf
  have hP : va_P (dC, dI) vwCl (wH cJ b1 b0 bw bq bf bo w en pl cu li ld fb ou) s.heap := hP
  have hl := lv_entry ([.ref b1, .long a1, .ref bo]) (n := 5) (Nat.le_of_ble_eq_true rfl)
  rw [lg_entry_eq]
  generalize (lg_sl ([.ref b1, .long a1, .ref bo]) ++ List.replicate (5 - (lg_sl ([.ref b1, .long a1, .ref bo])).length) Slot.unset).toArray = ls at hl ⊢
  have hl : lv_has ls 5 [(0, .ref b1), (1, .long a1), (3, .ref bo)] := hl
  clear hD0 hAe
  unfold j_L_fold at hj
  refine lv_aload_n hx hb dL_fold_0 rfl (lv_at hl 2 rfl) ?_
  refine lv_iconst (v := (0 : Int32)) hx hb dL_fold_1 (by decide) ?_
  refine lv_aload_n hx hb dL_fold_2 rfl (lv_at hl 0 rfl) ?_
  refine lv_lload_n hx hb dL_fold_3 rfl (lv_at hl 1 rfl) ?_
  obtain ⟨q, hc, hj⟩ := ja_bd hj
  rcases q with _ | v1
  · try dsimp only at hj
    have hPc := hP.sub (ws' := (wC cJ b1 b0 bw bq bf w en pl cu li ld fb)) [0, 1, 2, 3, 4] rfl
    have hDc := hD.sub (ws' := (wC cJ b1 b0 bw bq bf w en pl cu li ld fb)) [0, 1, 2, 3, 4] (by decide) rfl
    have hFc := va_free (wc := (wC cJ b1 b0 bw bq bf w en pl cu li ld fb)) hD hS hA [0, 1, 2, 3, 4] rfl
    refine vx_calll (vx_runV (As := [.long a1]) (rest := [.int (0 : Int32), .ref bo]) ⟨hx, hb, hml, hown, hts⟩ (x_X1_fold l hlt dC dI cI cJ b1 b0 bw bq bf s.heap.size w en pl cu li ld fb a1 hc) (cwV 1 hts gL_fold_X1_fold rfl rfl rfl (by decide +kernel) ⟨Nat.le_of_ble_eq_true rfl, Nat.le_of_ble_eq_true rfl⟩) ⟨fun a U g mk q => ⟨q.1, jPr.blind q.2.1, jNs.blind q.2.2.1, jXs.blind q.2.2.2⟩, va_recv hK hPc (ci := 1) (q0 := 0) rfl rfl, fun U hU hW => ⟨rfl, jPr.mk hU hW hPc hK hDc, jNs.warm hW hN, jXs.down hU hW hS hFc hXs⟩⟩ rfl rfl hl.1 rfl (lv_room (Nat.le_of_ble_eq_true rfl)) dL_fold_4 ⟨Nat.le_of_ble_eq_true rfl, Nat.le_of_ble_eq_true rfl⟩) hS (fun q _ h => hFc q h) hFc (fun q _ h => hFc q h) (fun E ce q9 u t H1 locs ht hvm hpx hBX hz1 hk1 hS hce hcv hcl => ?_) (fun rr u t H1 locs1 ht hvm hw9 hB hz1 hk1 hS => hw9.elim)
    obtain ⟨rfl, hP1, hK1, hD1⟩ := hBX
    rw [ht] at hP1
    obtain ⟨hP, hD⟩ := va_join (wr := ([(bo, .inl (cJ, 1, .inr (.inl ou)))] : va_W)) (w1 := (wC cJ b1 b0 bw bq bf w en pl cu li ld fb)) hP hD [0, 1, 2, 3, 4] [5] rfl rfl (by decide) (by decide) hk1 hFc hP1 hD1
    replace hP := hP.sub (ws' := (wH cJ b1 b0 bw bq bf bo w en pl cu li ld fb ou)) [1, 2, 3, 4, 5, 0] rfl
    replace hD := hD.sub (ws' := (wH cJ b1 b0 bw bq bf bo w en pl cu li ld fb ou)) [1, 2, 3, 4, 5, 0] (by decide) rfl
    clear hk1 hP1 hK1 hD1 hvm hz1 hPc hDc hFc
    refine kx_catch (name := "java/lang/IllegalArgumentException") hown ⟨0, 8, 11, 13⟩ htab (by decide) (by decide) (hts (.classLink RL 13 "java/lang/IllegalArgumentException") (by decide +kernel)) (hXs.wA _ _ (List.mem_of_getElem? (i := 3) rfl)) hce hcv hcl ?_
    generalize H1 = H at hP hS ⊢
    have hP : va_P (dC, dI) vwCl (wH cJ b1 b0 bw bq bf bo w en pl cu li ld fb ou) H := hP
    have hD : va_D A (wH cJ b1 b0 bw bq bf bo w en pl cu li ld fb ou) := hD
    refine lv_astore (lv' := [(4, .ref q9), (0, .ref b1), (1, .long a1), (3, .ref bo)]) hx hb dL_fold_11 hl (by decide) rfl (fun ls hl => ?_)
    refine lv_iconst (v := (1 : Int32)) hx hb dL_fold_13 (by decide) ?_
    refine W.widen (k := 1) (n := 6) (by decide) (by decide) ?_
    have hr9 : ((1 : Int32), ou) = r := Option.some.inj hj
    subst hr9
    exact W.iret (v := (1 : Int32)) hx hb hr (fun t ht hW => ⟨⟨(1 : Int32), (), rfl, rfl, by rw [ht]; exact hP, va_K.moved hW.alike hK, hD⟩, hS.F ht⟩) hS.2.2 dL_fold_14
  · try dsimp only at hj
    have hPc := hP.sub (ws' := (wC cJ b1 b0 bw bq bf w en pl cu li ld fb)) [0, 1, 2, 3, 4] rfl
    have hDc := hD.sub (ws' := (wC cJ b1 b0 bw bq bf w en pl cu li ld fb)) [0, 1, 2, 3, 4] (by decide) rfl
    have hFc := va_free (wc := (wC cJ b1 b0 bw bq bf w en pl cu li ld fb)) hD hS hA [0, 1, 2, 3, 4] rfl
    refine va_calll (va_runV (As := [.long a1]) (rest := [.int (0 : Int32), .ref bo]) ⟨hx, hb, hml, hown, hts⟩ (c_X1_fold l dC dI cI cJ b1 b0 bw bq bf s.heap.size w en pl cu li ld fb a1 _ hc) (cwV 1 hts gL_fold_X1_fold rfl rfl rfl (by decide +kernel) ⟨Nat.le_of_ble_eq_true rfl, Nat.le_of_ble_eq_true rfl⟩) ⟨fun a U g mk q => ⟨q.1, jPr.blind q.2.1, jNs.blind q.2.2⟩, va_recv hK hPc (ci := 1) (q0 := 0) rfl rfl, fun U hU hW => ⟨rfl, jPr.mk hU hW hPc hK hDc, jNs.warm hW hN⟩⟩ rfl rfl hl.1 rfl (lv_room (Nat.le_of_ble_eq_true rfl)) dL_fold_4 ⟨Nat.le_of_ble_eq_true rfl, Nat.le_of_ble_eq_true rfl⟩) hS (fun q _ h => hFc q h) hFc (fun rr u t H1 locs ht hvm hw9 hB hz1 hk1 hS => ?_)
    have hw8 : v1 = rr := hw9.symm
    subst hw8
    obtain ⟨hP1, hK1, hD1⟩ := hB
    rw [ht] at hP1
    obtain ⟨hP, hD⟩ := va_join (wr := ([(bo, .inl (cJ, 1, .inr (.inl ou)))] : va_W)) (w1 := (wC cJ b1 b0 bw bq bf w en pl cu li ld fb)) hP hD [0, 1, 2, 3, 4] [5] rfl rfl (by decide) (by decide) hk1 hFc hP1 hD1
    replace hP := hP.sub (ws' := (wH cJ b1 b0 bw bq bf bo w en pl cu li ld fb ou)) [1, 2, 3, 4, 5, 0] rfl
    replace hD := hD.sub (ws' := (wH cJ b1 b0 bw bq bf bo w en pl cu li ld fb ou)) [1, 2, 3, 4, 5, 0] (by decide) rfl
    clear hk1 hP1 hK1 hD1 hvm hz1 hPc hDc hFc
    generalize H1 = H at hP hS ⊢
    have hP : va_P (dC, dI) vwCl (wH cJ b1 b0 bw bq bf bo w en pl cu li ld fb ou) H := hP
    have hD : va_D A (wH cJ b1 b0 bw bq bf bo w en pl cu li ld fb ou) := hD
    obtain ⟨hin, hj⟩ := ja_ix hj
    refine va_last hx hb hK hP hD hS 5 1 rfl rfl hin dL_fold_7 (fun H locs hP hD hS => ?_)
    have hP : va_P (dC, dI) vwCl (wH cJ b1 b0 bw bq bf bo w en pl cu li ld fb (vp_updL ou (0 : Int32).toNatClampNeg v1)) H := hP
    have hD : va_D A (wH cJ b1 b0 bw bq bf bo w en pl cu li ld fb (vp_updL ou (0 : Int32).toNatClampNeg v1)) := hD
    refine lv_goto (tgt := 15) hx hb dL_fold_8 (by decide) ?_
    refine lv_iconst (v := (0 : Int32)) hx hb dL_fold_15 (by decide) ?_
    refine W.widen (k := 1) (n := 6) (by decide) (by decide) ?_
    have hr9 : ((0 : Int32), vp_updL ou (0 : Int32).toNatClampNeg v1) = r := Option.some.inj hj
    subst hr9
    exact W.iret (v := (0 : Int32)) hx hb hr (fun t ht hW => ⟨⟨(0 : Int32), (), rfl, rfl, by rw [ht]; exact hP, va_K.moved hW.alike hK, hD⟩, hS.F ht⟩) hS.2.2 dL_fold_16

def j_L_unfold (ou : Nat → Int64) (a1 : Int64) : Option (Int32 × (Nat → Int64)) :=
  (j_X1_unfold a1).bind fun q => match q with
    | none => some ((1 : Int32), ou)
    | some v1 => (jix (0 : Int32) 1 (some ((0 : Int32), vp_updL ou (0 : Int32).toNatClampNeg v1)))
set_option maxHeartbeats 4000000 in
set_option maxRecDepth 100000 in
theorem c_L_unfold (l : Launch) (hlt : l.stackTraces = false) (dC : Nat → ClassId) (dI : Nat → Nat → Nat) (cI cJ : ClassId) (b1 : Nat) (b0 : Nat) (bw : Nat) (bq : Nat) (bf : Nat) (bo : Nat) (sz : Nat) (w : Nat → Int64) (en : Int32) (pl : Int32) (cu : Int32) (li : Nat → Int64) (ld : Int32) (fb : Nat → Int64) (ou : Nat → Int64) (a1 : Int64) (r : Int32 × (Nat → Int64)) (hj : j_L_unfold ou a1 = some r) : Met l yL_unfold wsL_unfold ({ frames := 8, cells := 1, slots := 6, locals := 125 } : Room) (va_Pc [.ref b1, .long a1, .ref bo] (fun U => jPr dC dI cI cJ (wH cJ b1 b0 bw bq bf bo w en pl cu li ld fb ou) sz U ∧ jNs U ∧ jXs (va_A (wH cJ b1 b0 bw bq bf bo w en pl cu li ld fb ou) sz) U)) (va_Qi (fun (v : Int32) (_ : Unit) => v = r.1) (fun (_ : Unit) t => jPo dC dI cI cJ (wH cJ b1 b0 bw bq bf bo w en pl cu li ld fb r.2) (va_A (wH cJ b1 b0 bw bq bf bo w en pl cu li ld fb ou) sz) t) (va_A (wH cJ b1 b0 bw bq bf bo w en pl cu li ld fb ou) sz)) 1 6 (va_A (wH cJ b1 b0 bw bq bf bo w en pl cu li ld fb ou) sz) := by
  refine va_MetW (cc := cL_unfold) (maxL := 5) (ret := (some .int)) (hh := [(0, 8, 11, 13)]) (by decide) rfl ?_
  intro p e s m args below meth c s₁ B hml hv
  obtain ⟨rfl, ⟨hsz, hP, hK, hD0⟩, hN, hXs⟩ := hv
  have hx := B.exec
  have hb := B.bytes
  have hr := B.returns
  have hts := atoms_spec (ws := wsL_unfold) B.pre
  have hown : s.vm.findClass RL = some m.cls := findClass_of_methodNamed B.named
  have hlocks := B.notSynchronized
  have htab : c.exceptionTable.toList = [⟨0, 8, 11, 13⟩] := vx_table (x := yL_unfold) B (hts (.codeWith yL_unfold cL_unfold 5 (some .int) [(0, 8, 11, 13)]) (List.mem_cons_self))
  subst hsz
  have hD := hD0.self (sz := s.heap.size)
  generalize hAe : va_A (wH cJ b1 b0 bw bq bf bo w en pl cu li ld fb ou) s.heap.size = A at hD hXs ⊢
  have hA : ∀ q : Nat, s.heap.size ≤ q → A q := fun q h => by rw [← hAe]; exact Or.inr h
  have hS : va_S A s.heap s.heap [] := va_S.rf
  have hP : va_P (dC, dI) vwCl (wH cJ b1 b0 bw bq bf bo w en pl cu li ld fb ou) s.heap := hP
  have hl := lv_entry ([.ref b1, .long a1, .ref bo]) (n := 5) (Nat.le_of_ble_eq_true rfl)
  rw [lg_entry_eq]
  generalize (lg_sl ([.ref b1, .long a1, .ref bo]) ++ List.replicate (5 - (lg_sl ([.ref b1, .long a1, .ref bo])).length) Slot.unset).toArray = ls at hl ⊢
  have hl : lv_has ls 5 [(0, .ref b1), (1, .long a1), (3, .ref bo)] := hl
  clear hD0 hAe
  unfold j_L_unfold at hj
  refine lv_aload_n hx hb dL_unfold_0 rfl (lv_at hl 2 rfl) ?_
  refine lv_iconst (v := (0 : Int32)) hx hb dL_unfold_1 (by decide) ?_
  refine lv_aload_n hx hb dL_unfold_2 rfl (lv_at hl 0 rfl) ?_
  refine lv_lload_n hx hb dL_unfold_3 rfl (lv_at hl 1 rfl) ?_
  obtain ⟨q, hc, hj⟩ := ja_bd hj
  rcases q with _ | v1
  · try dsimp only at hj
    have hPc := hP.sub (ws' := (wC cJ b1 b0 bw bq bf w en pl cu li ld fb)) [0, 1, 2, 3, 4] rfl
    have hDc := hD.sub (ws' := (wC cJ b1 b0 bw bq bf w en pl cu li ld fb)) [0, 1, 2, 3, 4] (by decide) rfl
    have hFc := va_free (wc := (wC cJ b1 b0 bw bq bf w en pl cu li ld fb)) hD hS hA [0, 1, 2, 3, 4] rfl
    refine vx_calll (vx_runV (As := [.long a1]) (rest := [.int (0 : Int32), .ref bo]) ⟨hx, hb, hml, hown, hts⟩ (x_X1_unfold l hlt dC dI cI cJ b1 b0 bw bq bf s.heap.size w en pl cu li ld fb a1 hc) (cwV 1 hts gL_unfold_X1_unfold rfl rfl rfl (by decide +kernel) ⟨Nat.le_of_ble_eq_true rfl, Nat.le_of_ble_eq_true rfl⟩) ⟨fun a U g mk q => ⟨q.1, jPr.blind q.2.1, jNs.blind q.2.2.1, jXs.blind q.2.2.2⟩, va_recv hK hPc (ci := 1) (q0 := 0) rfl rfl, fun U hU hW => ⟨rfl, jPr.mk hU hW hPc hK hDc, jNs.warm hW hN, jXs.down hU hW hS hFc hXs⟩⟩ rfl rfl hl.1 rfl (lv_room (Nat.le_of_ble_eq_true rfl)) dL_unfold_4 ⟨Nat.le_of_ble_eq_true rfl, Nat.le_of_ble_eq_true rfl⟩) hS (fun q _ h => hFc q h) hFc (fun q _ h => hFc q h) (fun E ce q9 u t H1 locs ht hvm hpx hBX hz1 hk1 hS hce hcv hcl => ?_) (fun rr u t H1 locs1 ht hvm hw9 hB hz1 hk1 hS => hw9.elim)
    obtain ⟨rfl, hP1, hK1, hD1⟩ := hBX
    rw [ht] at hP1
    obtain ⟨hP, hD⟩ := va_join (wr := ([(bo, .inl (cJ, 1, .inr (.inl ou)))] : va_W)) (w1 := (wC cJ b1 b0 bw bq bf w en pl cu li ld fb)) hP hD [0, 1, 2, 3, 4] [5] rfl rfl (by decide) (by decide) hk1 hFc hP1 hD1
    replace hP := hP.sub (ws' := (wH cJ b1 b0 bw bq bf bo w en pl cu li ld fb ou)) [1, 2, 3, 4, 5, 0] rfl
    replace hD := hD.sub (ws' := (wH cJ b1 b0 bw bq bf bo w en pl cu li ld fb ou)) [1, 2, 3, 4, 5, 0] (by decide) rfl
    clear hk1 hP1 hK1 hD1 hvm hz1 hPc hDc hFc
    refine kx_catch (name := "java/lang/IllegalArgumentException") hown ⟨0, 8, 11, 13⟩ htab (by decide) (by decide) (hts (.classLink RL 13 "java/lang/IllegalArgumentException") (by decide +kernel)) (hXs.wA _ _ (List.mem_of_getElem? (i := 3) rfl)) hce hcv hcl ?_
    generalize H1 = H at hP hS ⊢
    have hP : va_P (dC, dI) vwCl (wH cJ b1 b0 bw bq bf bo w en pl cu li ld fb ou) H := hP
    have hD : va_D A (wH cJ b1 b0 bw bq bf bo w en pl cu li ld fb ou) := hD
    refine lv_astore (lv' := [(4, .ref q9), (0, .ref b1), (1, .long a1), (3, .ref bo)]) hx hb dL_unfold_11 hl (by decide) rfl (fun ls hl => ?_)
    refine lv_iconst (v := (1 : Int32)) hx hb dL_unfold_13 (by decide) ?_
    refine W.widen (k := 1) (n := 6) (by decide) (by decide) ?_
    have hr9 : ((1 : Int32), ou) = r := Option.some.inj hj
    subst hr9
    exact W.iret (v := (1 : Int32)) hx hb hr (fun t ht hW => ⟨⟨(1 : Int32), (), rfl, rfl, by rw [ht]; exact hP, va_K.moved hW.alike hK, hD⟩, hS.F ht⟩) hS.2.2 dL_unfold_14
  · try dsimp only at hj
    have hPc := hP.sub (ws' := (wC cJ b1 b0 bw bq bf w en pl cu li ld fb)) [0, 1, 2, 3, 4] rfl
    have hDc := hD.sub (ws' := (wC cJ b1 b0 bw bq bf w en pl cu li ld fb)) [0, 1, 2, 3, 4] (by decide) rfl
    have hFc := va_free (wc := (wC cJ b1 b0 bw bq bf w en pl cu li ld fb)) hD hS hA [0, 1, 2, 3, 4] rfl
    refine va_calll (va_runV (As := [.long a1]) (rest := [.int (0 : Int32), .ref bo]) ⟨hx, hb, hml, hown, hts⟩ (c_X1_unfold l dC dI cI cJ b1 b0 bw bq bf s.heap.size w en pl cu li ld fb a1 _ hc) (cwV 1 hts gL_unfold_X1_unfold rfl rfl rfl (by decide +kernel) ⟨Nat.le_of_ble_eq_true rfl, Nat.le_of_ble_eq_true rfl⟩) ⟨fun a U g mk q => ⟨q.1, jPr.blind q.2.1, jNs.blind q.2.2⟩, va_recv hK hPc (ci := 1) (q0 := 0) rfl rfl, fun U hU hW => ⟨rfl, jPr.mk hU hW hPc hK hDc, jNs.warm hW hN⟩⟩ rfl rfl hl.1 rfl (lv_room (Nat.le_of_ble_eq_true rfl)) dL_unfold_4 ⟨Nat.le_of_ble_eq_true rfl, Nat.le_of_ble_eq_true rfl⟩) hS (fun q _ h => hFc q h) hFc (fun rr u t H1 locs ht hvm hw9 hB hz1 hk1 hS => ?_)
    have hw8 : v1 = rr := hw9.symm
    subst hw8
    obtain ⟨hP1, hK1, hD1⟩ := hB
    rw [ht] at hP1
    obtain ⟨hP, hD⟩ := va_join (wr := ([(bo, .inl (cJ, 1, .inr (.inl ou)))] : va_W)) (w1 := (wC cJ b1 b0 bw bq bf w en pl cu li ld fb)) hP hD [0, 1, 2, 3, 4] [5] rfl rfl (by decide) (by decide) hk1 hFc hP1 hD1
    replace hP := hP.sub (ws' := (wH cJ b1 b0 bw bq bf bo w en pl cu li ld fb ou)) [1, 2, 3, 4, 5, 0] rfl
    replace hD := hD.sub (ws' := (wH cJ b1 b0 bw bq bf bo w en pl cu li ld fb ou)) [1, 2, 3, 4, 5, 0] (by decide) rfl
    clear hk1 hP1 hK1 hD1 hvm hz1 hPc hDc hFc
    generalize H1 = H at hP hS ⊢
    have hP : va_P (dC, dI) vwCl (wH cJ b1 b0 bw bq bf bo w en pl cu li ld fb ou) H := hP
    have hD : va_D A (wH cJ b1 b0 bw bq bf bo w en pl cu li ld fb ou) := hD
    obtain ⟨hin, hj⟩ := ja_ix hj
    refine va_last hx hb hK hP hD hS 5 1 rfl rfl hin dL_unfold_7 (fun H locs hP hD hS => ?_)
    have hP : va_P (dC, dI) vwCl (wH cJ b1 b0 bw bq bf bo w en pl cu li ld fb (vp_updL ou (0 : Int32).toNatClampNeg v1)) H := hP
    have hD : va_D A (wH cJ b1 b0 bw bq bf bo w en pl cu li ld fb (vp_updL ou (0 : Int32).toNatClampNeg v1)) := hD
    refine lv_goto (tgt := 15) hx hb dL_unfold_8 (by decide) ?_
    refine lv_iconst (v := (0 : Int32)) hx hb dL_unfold_15 (by decide) ?_
    refine W.widen (k := 1) (n := 6) (by decide) (by decide) ?_
    have hr9 : ((0 : Int32), vp_updL ou (0 : Int32).toNatClampNeg v1) = r := Option.some.inj hj
    subst hr9
    exact W.iret (v := (0 : Int32)) hx hb hr (fun t ht hW => ⟨⟨(0 : Int32), (), rfl, rfl, by rw [ht]; exact hP, va_K.moved hW.alike hK, hD⟩, hS.F ht⟩) hS.2.2 dL_unfold_16

