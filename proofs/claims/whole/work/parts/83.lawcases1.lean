def jC_7 (w : Nat → Int64) (en : Int32) (pl : Int32) (cu : Int32) (li : Nat → Int64) (ld : Int32) (fb : Nat → Int64) (th : Int32) (rw : Nat → Int32) (mn : Int32) (at_ : Int32) (ml : Nat → Int64) (md_l : Int32) (wd : Nat → Int32) (md : Int32) (sm : Nat → Int64) (fr : Int32) (no : Int32) (ou : Nat → Int64) (v_1 v_2 v_3 v_4 : Int32) : Option (jSt9) :=
  (j_L_seek en pl v_1).bind fun (v1, v2) => ((j_X2_seek th mn at_ v_1).bind fun (v3, v4) => ((j_X2_thrown v3).bind fun v5 => (if v5 = v1 then (some (w, en, v2, cu, li, ld, fb, v3, rw, mn, v4, ml, md_l, wd, md, sm, fr, no, ou)) else (none))))
set_option maxHeartbeats 4000000 in
set_option maxRecDepth 100000 in
theorem sl_7 {p : Program} {l : Launch} {e : Env} {s : State} {m : MethodId} {below : List Frame} {meth : Method} {c : Code} {dC : Nat → ClassId} {dI : Nat → Nat → Nat} {cI cJ : ClassId} {b L : Nat} {xs : Nat → Int32} (hlt : l.stackTraces = false) (C0 : sl_Cx p s m meth c b L xs) (hK : va_K (dC, dI) vwCl (jTy cI cJ) s) (hN : jNs s) (hXs : jXs (fun q : Nat => s.heap.size ≤ q) s) (hL : L ≤ 2560) (b1 : Nat) (b0 : Nat) (bw : Nat) (bq : Nat) (bf : Nat) (g0 : Nat) (gr : Nat) (gl : Nat) (gw : Nat) (gs : Nat) (bo : Nat) (w : Nat → Int64) (en : Int32) (pl : Int32) (cu : Int32) (li : Nat → Int64) (ld : Int32) (fb : Nat → Int64) (th : Int32) (rw : Nat → Int32) (mn : Int32) (at_ : Int32) (ml : Nat → Int64) (md_l : Int32) (wd : Nat → Int32) (md : Int32) (sm : Nat → Int64) (fr : Int32) (no : Int32) (ou : Nat → Int64) (i kk : Nat) (hi : i + 5 ≤ L) (hkk : kk < 512) (r : jSt9) (hj : jC_7 w en pl cu li ld fb th rw mn at_ ml md_l wd md sm fr no ou (xs (i + 1)) (xs (i + 2)) (xs (i + 3)) (xs (i + 4)) = some r)
    (hk : ∀ (H : Heap) (locs : List Loc) (ls : Array Slot), va_P (dC, dI) vwCl (wL cI cJ b1 b0 bw bq bf g0 gr gl gw gs bo r.1 r.2.1 r.2.2.1 r.2.2.2.1 r.2.2.2.2.1 r.2.2.2.2.2.1 r.2.2.2.2.2.2.1 r.2.2.2.2.2.2.2.1 r.2.2.2.2.2.2.2.2.1 r.2.2.2.2.2.2.2.2.2.1 r.2.2.2.2.2.2.2.2.2.2.1 r.2.2.2.2.2.2.2.2.2.2.2.1 r.2.2.2.2.2.2.2.2.2.2.2.2.1 r.2.2.2.2.2.2.2.2.2.2.2.2.2.1 r.2.2.2.2.2.2.2.2.2.2.2.2.2.2.1 r.2.2.2.2.2.2.2.2.2.2.2.2.2.2.2.1 r.2.2.2.2.2.2.2.2.2.2.2.2.2.2.2.2.1 r.2.2.2.2.2.2.2.2.2.2.2.2.2.2.2.2.2.1 r.2.2.2.2.2.2.2.2.2.2.2.2.2.2.2.2.2.2) H → va_D (fun q : Nat => s.heap.size ≤ q) (wL cI cJ b1 b0 bw bq bf g0 gr gl gw gs bo r.1 r.2.1 r.2.2.1 r.2.2.2.1 r.2.2.2.2.1 r.2.2.2.2.2.1 r.2.2.2.2.2.2.1 r.2.2.2.2.2.2.2.1 r.2.2.2.2.2.2.2.2.1 r.2.2.2.2.2.2.2.2.2.1 r.2.2.2.2.2.2.2.2.2.2.1 r.2.2.2.2.2.2.2.2.2.2.2.1 r.2.2.2.2.2.2.2.2.2.2.2.2.1 r.2.2.2.2.2.2.2.2.2.2.2.2.2.1 r.2.2.2.2.2.2.2.2.2.2.2.2.2.2.1 r.2.2.2.2.2.2.2.2.2.2.2.2.2.2.2.1 r.2.2.2.2.2.2.2.2.2.2.2.2.2.2.2.2.1 r.2.2.2.2.2.2.2.2.2.2.2.2.2.2.2.2.2.1 r.2.2.2.2.2.2.2.2.2.2.2.2.2.2.2.2.2.2) → va_S (fun q : Nat => s.heap.size ≤ q) s.heap H locs → lv_has ls 8 [(0, .ref b), (1, .ref b1), (2, .ref g0), (3, .ref bo), (4, .int (nI i))] → W p l e room_1 s m #[Value.ref b] below meth c H locs (11 + (kk + 1)) (8761 + 6 * (kk + 1)) (lw_Z below #[Value.ref b] s) (F0 m 1465 ls [])) :
    ∀ (H : Heap) (locs : List Loc) (ls : Array Slot), va_P (dC, dI) vwCl (wL cI cJ b1 b0 bw bq bf g0 gr gl gw gs bo w en pl cu li ld fb th rw mn at_ ml md_l wd md sm fr no ou) H → va_D (fun q : Nat => s.heap.size ≤ q) (wL cI cJ b1 b0 bw bq bf g0 gr gl gw gs bo w en pl cu li ld fb th rw mn at_ ml md_l wd md sm fr no ou) → va_S (fun q : Nat => s.heap.size ≤ q) s.heap H locs → lv_has ls 8 [(0, .ref b), (1, .ref b1), (2, .ref g0), (3, .ref bo), (4, .int (nI i))] → W p l e room_1 s m #[Value.ref b] below meth c H locs (11 + kk) (8761 + 6 * kk) (lw_Z below #[Value.ref b] s) (F0 m 578 ls []) := by
  obtain ⟨hx, hb, hr, hml, hown, hts, hX, hbl, hlocks⟩ := id C0
  have hA : ∀ q : Nat, s.heap.size ≤ q → (fun q : Nat => s.heap.size ≤ q) q := fun _ h => h
  have hbA : ¬ (fun q : Nat => s.heap.size ≤ q) b := Nat.not_le.mpr hbl
  intro H locs ls hP hD hS hl
  generalize hAe : (fun q : Nat => s.heap.size ≤ q) = A at hA hbA hXs hD hS hk ⊢
  clear hAe
  unfold jC_7 at hj
  refine lv_aload_n hx hb dL_law_578 rfl (lv_at hl 1 rfl) ?_
  refine lv_aload_n hx hb dL_law_579 rfl (lv_at hl 0 rfl) ?_
  refine lv_iload hx hb dL_law_580 (lv_at hl 4 rfl) ?_
  refine lv_iconst (v := (1 : Int32)) hx hb dL_law_582 (by decide) ?_
  refine lv_iadd hx hb dL_law_583 ?_
  refine sl_ld hx hb hX hbl hbA hS (j := i + 1) (by omega) hL (nI_add i 1) dL_law_584 ?_
  obtain ⟨⟨v1, v2⟩, hc, hj⟩ := ja_bd hj
  try dsimp only at hj
  have hPc := hP.sub (ws' := (wC cJ b1 b0 bw bq bf w en pl cu li ld fb)) [0, 1, 2, 3, 4] rfl
  have hDc := hD.sub (ws' := (wC cJ b1 b0 bw bq bf w en pl cu li ld fb)) [0, 1, 2, 3, 4] (by decide) rfl
  have hFc := va_free (wc := (wC cJ b1 b0 bw bq bf w en pl cu li ld fb)) hD hS hA [0, 1, 2, 3, 4] rfl
  refine va_calli (vx_runSW (As := [.ref b1, .int (xs (i + 1))]) (rest := []) ⟨hx, hb, hml, hown, hts⟩ (c_L_seek l hlt dC dI cI cJ b1 b0 bw bq bf H.size w en pl cu li ld fb (xs (i + 1)) _ hc) (vx_cwSW 2 hts gL_law_L_seek rfl rfl rfl (by decide +kernel) ⟨Nat.le_of_ble_eq_true rfl, Nat.le_of_ble_eq_true rfl⟩) ⟨fun a U g mk q => ⟨q.1, jPr.blind q.2.1, jNs.blind q.2.2.1, jXs.blind q.2.2.2⟩, fun U hU hW => ⟨rfl, jPr.mk hU hW hPc hK hDc, jNs.warm hW hN, jXs.down hU hW hS hFc hXs⟩⟩ rfl rfl hl.1 rfl (lv_room (Nat.le_of_ble_eq_true rfl)) dL_law_585 ⟨by show _ ≤ 1043; omega, by show _ ≤ 17001; omega⟩) hS (fun q _ h => hFc q h) hFc (fun rr u t H1 locs ht hvm hw9 hB hz1 hk1 hS => ?_)
  have hw8 : v1 = rr := hw9.symm
  subst hw8
  obtain ⟨hP1, hK1, hD1⟩ := hB
  rw [ht] at hP1
  obtain ⟨hP, hD⟩ := va_join (wr := ([(g0, .inr (2, [.int th, .ref gr, .int mn, .int at_, .ref gl, .int md_l, .ref gw, .int md, .ref gs, .int fr, .int no])), (gr, .inl (cI, 4096, .inl rw)), (gl, .inl (cJ, 100, .inr (.inl ml))), (gw, .inl (cI, 4200, .inl wd)), (gs, .inl (cJ, 92, .inr (.inl sm))), (bo, .inl (cJ, 1, .inr (.inl ou)))] : va_W)) (w1 := (wC cJ b1 b0 bw bq bf w en v2 cu li ld fb)) hP hD [0, 1, 2, 3, 4] [5, 6, 7, 8, 9, 10] rfl rfl (by decide) (by decide) hk1 hFc hP1 hD1
  replace hP := hP.sub (ws' := (wL cI cJ b1 b0 bw bq bf g0 gr gl gw gs bo w en v2 cu li ld fb th rw mn at_ ml md_l wd md sm fr no ou)) [6, 7, 8, 9, 10, 0, 1, 2, 3, 4, 5] rfl
  replace hD := hD.sub (ws' := (wL cI cJ b1 b0 bw bq bf g0 gr gl gw gs bo w en v2 cu li ld fb th rw mn at_ ml md_l wd md sm fr no ou)) [6, 7, 8, 9, 10, 0, 1, 2, 3, 4, 5] (by decide) rfl
  clear hk1 hP1 hK1 hD1 hvm hz1 hPc hDc hFc
  generalize H1 = H at hP hS ⊢
  refine W.widen (k := 11 + (kk + 1)) (n := 8761 + 6 * (kk + 1)) (by omega) (by omega) ?_
  have hP : va_P (dC, dI) vwCl (wL cI cJ b1 b0 bw bq bf g0 gr gl gw gs bo w en v2 cu li ld fb th rw mn at_ ml md_l wd md sm fr no ou) H := hP
  have hD : va_D A (wL cI cJ b1 b0 bw bq bf g0 gr gl gw gs bo w en v2 cu li ld fb th rw mn at_ ml md_l wd md sm fr no ou) := hD
  refine lv_istore (lv' := [(5, .int v1), (0, .ref b), (1, .ref b1), (2, .ref g0), (3, .ref bo), (4, .int (nI i))]) hx hb dL_law_588 hl (by decide) rfl (fun ls hl => ?_)
  refine lv_aload_n hx hb dL_law_590 rfl (lv_at hl 3 rfl) ?_
  refine lv_aload_n hx hb dL_law_591 rfl (lv_at hl 1 rfl) ?_
  refine lv_iload hx hb dL_law_592 (lv_at hl 5 rfl) ?_
  refine lv_iconst (v := (1 : Int32)) hx hb dL_law_594 (by decide) ?_
  refine lv_iadd hx hb dL_law_595 ?_
  refine sl_ld hx hb hX hbl hbA hS (j := i + 1) (by omega) hL (nI_add i 1) dL_law_596 ?_
  obtain ⟨⟨v3, v4⟩, hc, hj⟩ := ja_bd hj
  try dsimp only at hj
  have hPc := hP.sub (ws' := (wM cI cJ g0 gr gl gw gs th rw mn at_ ml md_l wd md sm fr no)) [5, 6, 7, 8, 9] rfl
  have hDc := hD.sub (ws' := (wM cI cJ g0 gr gl gw gs th rw mn at_ ml md_l wd md sm fr no)) [5, 6, 7, 8, 9] (by decide) rfl
  have hFc := va_free (wc := (wM cI cJ g0 gr gl gw gs th rw mn at_ ml md_l wd md sm fr no)) hD hS hA [5, 6, 7, 8, 9] rfl
  refine va_callv (va_runV (As := [.int (xs (i + 1))]) (rest := []) ⟨hx, hb, hml, hown, hts⟩ (c_X2_seek l dC dI cI cJ g0 gr gl gw gs H.size th rw mn at_ ml md_l wd md sm fr no (xs (i + 1)) _ hc) (cwV 1 hts gL_law_X2_seek rfl rfl rfl (by decide +kernel) ⟨Nat.le_of_ble_eq_true rfl, Nat.le_of_ble_eq_true rfl⟩) ⟨fun a U g mk q => ⟨q.1, jPr.blind q.2⟩, va_recv hK hPc (ci := 2) (q0 := 0) rfl rfl, fun U hU hW => ⟨rfl, jPr.mk hU hW hPc hK hDc⟩⟩ rfl rfl hl.1 rfl (lv_room (Nat.le_of_ble_eq_true rfl)) dL_law_597 ⟨by show _ ≤ 1043; omega, by show _ ≤ 17001; omega⟩) hS (fun q _ h => hFc q h) hFc (fun u t H1 locs ht hvm hw9 hB hz1 hk1 hS => ?_)
  obtain ⟨hP1, hK1, hD1⟩ := hB
  rw [ht] at hP1
  obtain ⟨hP, hD⟩ := va_join (wr := ([(b1, .inr (1, [.ref b0, .ref bq, .ref bf, .int ld])), (b0, .inr (0, [.ref bw, .int en, .int v2, .int cu])), (bw, .inl (cJ, 64, .inr (.inl w))), (bq, .inl (cJ, 100, .inr (.inl li))), (bf, .inl (cJ, 89, .inr (.inl fb))), (bo, .inl (cJ, 1, .inr (.inl ou)))] : va_W)) (w1 := (wM cI cJ g0 gr gl gw gs v3 rw mn v4 ml md_l wd md sm fr no)) hP hD [5, 6, 7, 8, 9] [0, 1, 2, 3, 4, 10] rfl rfl (by decide) (by decide) hk1 hFc hP1 hD1
  replace hP := hP.sub (ws' := (wL cI cJ b1 b0 bw bq bf g0 gr gl gw gs bo w en v2 cu li ld fb v3 rw mn v4 ml md_l wd md sm fr no ou)) [0, 1, 2, 3, 4, 6, 7, 8, 9, 10, 5] rfl
  replace hD := hD.sub (ws' := (wL cI cJ b1 b0 bw bq bf g0 gr gl gw gs bo w en v2 cu li ld fb v3 rw mn v4 ml md_l wd md sm fr no ou)) [0, 1, 2, 3, 4, 6, 7, 8, 9, 10, 5] (by decide) rfl
  clear hk1 hP1 hK1 hD1 hvm hz1 hPc hDc hFc
  generalize H1 = H at hP hS ⊢
  refine W.widen (k := 11 + (kk + 1)) (n := 8761 + 6 * (kk + 1)) (by omega) (by omega) ?_
  have hP : va_P (dC, dI) vwCl (wL cI cJ b1 b0 bw bq bf g0 gr gl gw gs bo w en v2 cu li ld fb v3 rw mn v4 ml md_l wd md sm fr no ou) H := hP
  have hD : va_D A (wL cI cJ b1 b0 bw bq bf g0 gr gl gw gs bo w en v2 cu li ld fb v3 rw mn v4 ml md_l wd md sm fr no ou) := hD
  refine lv_aload_n hx hb dL_law_600 rfl (lv_at hl 3 rfl) ?_
  obtain ⟨v5, hc, hj⟩ := ja_bd hj
  try dsimp only at hj
  have hPc := hP.sub (ws' := (wM cI cJ g0 gr gl gw gs v3 rw mn v4 ml md_l wd md sm fr no)) [5, 6, 7, 8, 9] rfl
  have hDc := hD.sub (ws' := (wM cI cJ g0 gr gl gw gs v3 rw mn v4 ml md_l wd md sm fr no)) [5, 6, 7, 8, 9] (by decide) rfl
  have hFc := va_free (wc := (wM cI cJ g0 gr gl gw gs v3 rw mn v4 ml md_l wd md sm fr no)) hD hS hA [5, 6, 7, 8, 9] rfl
  refine va_calli (va_runV (As := []) (rest := []) ⟨hx, hb, hml, hown, hts⟩ (c_X2_thrown l dC dI cI cJ g0 gr gl gw gs H.size v3 rw mn v4 ml md_l wd md sm fr no _ hc) (cwV 0 hts gL_law_X2_thrown rfl rfl rfl (by decide +kernel) ⟨Nat.le_of_ble_eq_true rfl, Nat.le_of_ble_eq_true rfl⟩) ⟨fun a U g mk q => ⟨q.1, jPr.blind q.2⟩, va_recv hK hPc (ci := 2) (q0 := 0) rfl rfl, fun U hU hW => ⟨rfl, jPr.mk hU hW hPc hK hDc⟩⟩ rfl rfl hl.1 rfl (lv_room (Nat.le_of_ble_eq_true rfl)) dL_law_601 ⟨by show _ ≤ 1043; omega, by show _ ≤ 17001; omega⟩) hS (fun q _ h => hFc q h) hFc (fun rr u t H1 locs ht hvm hw9 hB hz1 hk1 hS => ?_)
  have hw8 : v5 = rr := hw9.symm
  subst hw8
  obtain ⟨hP1, hK1, hD1⟩ := hB
  rw [ht] at hP1
  obtain ⟨hP, hD⟩ := va_join (wr := ([(b1, .inr (1, [.ref b0, .ref bq, .ref bf, .int ld])), (b0, .inr (0, [.ref bw, .int en, .int v2, .int cu])), (bw, .inl (cJ, 64, .inr (.inl w))), (bq, .inl (cJ, 100, .inr (.inl li))), (bf, .inl (cJ, 89, .inr (.inl fb))), (bo, .inl (cJ, 1, .inr (.inl ou)))] : va_W)) (w1 := (wM cI cJ g0 gr gl gw gs v3 rw mn v4 ml md_l wd md sm fr no)) hP hD [5, 6, 7, 8, 9] [0, 1, 2, 3, 4, 10] rfl rfl (by decide) (by decide) hk1 hFc hP1 hD1
  replace hP := hP.sub (ws' := (wL cI cJ b1 b0 bw bq bf g0 gr gl gw gs bo w en v2 cu li ld fb v3 rw mn v4 ml md_l wd md sm fr no ou)) [0, 1, 2, 3, 4, 6, 7, 8, 9, 10, 5] rfl
  replace hD := hD.sub (ws' := (wL cI cJ b1 b0 bw bq bf g0 gr gl gw gs bo w en v2 cu li ld fb v3 rw mn v4 ml md_l wd md sm fr no ou)) [0, 1, 2, 3, 4, 6, 7, 8, 9, 10, 5] (by decide) rfl
  clear hk1 hP1 hK1 hD1 hvm hz1 hPc hDc hFc
  generalize H1 = H at hP hS ⊢
  refine W.widen (k := 11 + (kk + 1)) (n := 8761 + 6 * (kk + 1)) (by omega) (by omega) ?_
  have hP : va_P (dC, dI) vwCl (wL cI cJ b1 b0 bw bq bf g0 gr gl gw gs bo w en v2 cu li ld fb v3 rw mn v4 ml md_l wd md sm fr no ou) H := hP
  have hD : va_D A (wL cI cJ b1 b0 bw bq bf g0 gr gl gw gs bo w en v2 cu li ld fb v3 rw mn v4 ml md_l wd md sm fr no ou) := hD
  refine lv_iload hx hb dL_law_604 (lv_at hl 0 rfl) ?_
  refine lv_icmp_eq (tgt := 611) hx hb dL_law_606 (by decide) (fun c6 => ?_) (fun c6 => ?_)
  · replace hj := ja_pos c6 hj
    refine lv_goto (tgt := 1465) hx hb dL_law_611 (by decide) ?_
    have hr9 : (w, en, v2, cu, li, ld, fb, v3, rw, mn, v4, ml, md_l, wd, md, sm, fr, no, ou) = r := Option.some.inj hj
    subst hr9
    exact hk H locs ls hP hD hS (lv_sub hl [1, 2, 3, 4, 5] rfl)
  · replace hj := ja_neg c6 hj
    refine lv_iconst (v := (0 : Int32)) hx hb dL_law_609 (by decide) ?_
    cases hj
def jC_8 (w : Nat → Int64) (en : Int32) (pl : Int32) (cu : Int32) (li : Nat → Int64) (ld : Int32) (fb : Nat → Int64) (th : Int32) (rw : Nat → Int32) (mn : Int32) (at_ : Int32) (ml : Nat → Int64) (md_l : Int32) (wd : Nat → Int32) (md : Int32) (sm : Nat → Int64) (fr : Int32) (no : Int32) (ou : Nat → Int64) (v_1 v_2 v_3 v_4 : Int32) : Option (jSt9) :=
  (j_X1_wipe w en pl).bind fun (v1, v2, v3, v4) => ((j_X2_wipe th mn at_).bind fun (v5, v6, v7, v8) => (if v1 = v5 then (some (v2, v3, v4, cu, li, ld, fb, v6, rw, v7, v8, ml, md_l, wd, md, sm, fr, no, ou)) else (none)))
set_option maxHeartbeats 4000000 in
set_option maxRecDepth 100000 in
theorem sl_8 {p : Program} {l : Launch} {e : Env} {s : State} {m : MethodId} {below : List Frame} {meth : Method} {c : Code} {dC : Nat → ClassId} {dI : Nat → Nat → Nat} {cI cJ : ClassId} {b L : Nat} {xs : Nat → Int32} (hlt : l.stackTraces = false) (C0 : sl_Cx p s m meth c b L xs) (hK : va_K (dC, dI) vwCl (jTy cI cJ) s) (hN : jNs s) (hXs : jXs (fun q : Nat => s.heap.size ≤ q) s) (hL : L ≤ 2560) (b1 : Nat) (b0 : Nat) (bw : Nat) (bq : Nat) (bf : Nat) (g0 : Nat) (gr : Nat) (gl : Nat) (gw : Nat) (gs : Nat) (bo : Nat) (w : Nat → Int64) (en : Int32) (pl : Int32) (cu : Int32) (li : Nat → Int64) (ld : Int32) (fb : Nat → Int64) (th : Int32) (rw : Nat → Int32) (mn : Int32) (at_ : Int32) (ml : Nat → Int64) (md_l : Int32) (wd : Nat → Int32) (md : Int32) (sm : Nat → Int64) (fr : Int32) (no : Int32) (ou : Nat → Int64) (i kk : Nat) (hi : i + 5 ≤ L) (hkk : kk < 512) (r : jSt9) (hj : jC_8 w en pl cu li ld fb th rw mn at_ ml md_l wd md sm fr no ou (xs (i + 1)) (xs (i + 2)) (xs (i + 3)) (xs (i + 4)) = some r)
    (hk : ∀ (H : Heap) (locs : List Loc) (ls : Array Slot), va_P (dC, dI) vwCl (wL cI cJ b1 b0 bw bq bf g0 gr gl gw gs bo r.1 r.2.1 r.2.2.1 r.2.2.2.1 r.2.2.2.2.1 r.2.2.2.2.2.1 r.2.2.2.2.2.2.1 r.2.2.2.2.2.2.2.1 r.2.2.2.2.2.2.2.2.1 r.2.2.2.2.2.2.2.2.2.1 r.2.2.2.2.2.2.2.2.2.2.1 r.2.2.2.2.2.2.2.2.2.2.2.1 r.2.2.2.2.2.2.2.2.2.2.2.2.1 r.2.2.2.2.2.2.2.2.2.2.2.2.2.1 r.2.2.2.2.2.2.2.2.2.2.2.2.2.2.1 r.2.2.2.2.2.2.2.2.2.2.2.2.2.2.2.1 r.2.2.2.2.2.2.2.2.2.2.2.2.2.2.2.2.1 r.2.2.2.2.2.2.2.2.2.2.2.2.2.2.2.2.2.1 r.2.2.2.2.2.2.2.2.2.2.2.2.2.2.2.2.2.2) H → va_D (fun q : Nat => s.heap.size ≤ q) (wL cI cJ b1 b0 bw bq bf g0 gr gl gw gs bo r.1 r.2.1 r.2.2.1 r.2.2.2.1 r.2.2.2.2.1 r.2.2.2.2.2.1 r.2.2.2.2.2.2.1 r.2.2.2.2.2.2.2.1 r.2.2.2.2.2.2.2.2.1 r.2.2.2.2.2.2.2.2.2.1 r.2.2.2.2.2.2.2.2.2.2.1 r.2.2.2.2.2.2.2.2.2.2.2.1 r.2.2.2.2.2.2.2.2.2.2.2.2.1 r.2.2.2.2.2.2.2.2.2.2.2.2.2.1 r.2.2.2.2.2.2.2.2.2.2.2.2.2.2.1 r.2.2.2.2.2.2.2.2.2.2.2.2.2.2.2.1 r.2.2.2.2.2.2.2.2.2.2.2.2.2.2.2.2.1 r.2.2.2.2.2.2.2.2.2.2.2.2.2.2.2.2.2.1 r.2.2.2.2.2.2.2.2.2.2.2.2.2.2.2.2.2.2) → va_S (fun q : Nat => s.heap.size ≤ q) s.heap H locs → lv_has ls 8 [(0, .ref b), (1, .ref b1), (2, .ref g0), (3, .ref bo), (4, .int (nI i))] → W p l e room_1 s m #[Value.ref b] below meth c H locs (11 + (kk + 1)) (8761 + 6 * (kk + 1)) (lw_Z below #[Value.ref b] s) (F0 m 1465 ls [])) :
    ∀ (H : Heap) (locs : List Loc) (ls : Array Slot), va_P (dC, dI) vwCl (wL cI cJ b1 b0 bw bq bf g0 gr gl gw gs bo w en pl cu li ld fb th rw mn at_ ml md_l wd md sm fr no ou) H → va_D (fun q : Nat => s.heap.size ≤ q) (wL cI cJ b1 b0 bw bq bf g0 gr gl gw gs bo w en pl cu li ld fb th rw mn at_ ml md_l wd md sm fr no ou) → va_S (fun q : Nat => s.heap.size ≤ q) s.heap H locs → lv_has ls 8 [(0, .ref b), (1, .ref b1), (2, .ref g0), (3, .ref bo), (4, .int (nI i))] → W p l e room_1 s m #[Value.ref b] below meth c H locs (11 + kk) (8761 + 6 * kk) (lw_Z below #[Value.ref b] s) (F0 m 614 ls []) := by
  obtain ⟨hx, hb, hr, hml, hown, hts, hX, hbl, hlocks⟩ := id C0
  have hA : ∀ q : Nat, s.heap.size ≤ q → (fun q : Nat => s.heap.size ≤ q) q := fun _ h => h
  have hbA : ¬ (fun q : Nat => s.heap.size ≤ q) b := Nat.not_le.mpr hbl
  intro H locs ls hP hD hS hl
  generalize hAe : (fun q : Nat => s.heap.size ≤ q) = A at hA hbA hXs hD hS hk ⊢
  clear hAe
  unfold jC_8 at hj
  refine W.widen (k := 11 + (kk + 1)) (n := 8761 + 6 * (kk + 1)) (by omega) (by omega) ?_
  refine lv_aload_n hx hb dL_law_614 rfl (lv_at hl 1 rfl) ?_
  obtain ⟨⟨v1, v2, v3, v4⟩, hc, hj⟩ := ja_bd hj
  try dsimp only at hj
  have hPc := hP.sub (ws' := (wC cJ b1 b0 bw bq bf w en pl cu li ld fb)) [0, 1, 2, 3, 4] rfl
  have hDc := hD.sub (ws' := (wC cJ b1 b0 bw bq bf w en pl cu li ld fb)) [0, 1, 2, 3, 4] (by decide) rfl
  have hFc := va_free (wc := (wC cJ b1 b0 bw bq bf w en pl cu li ld fb)) hD hS hA [0, 1, 2, 3, 4] rfl
  refine va_calli (va_runV (As := []) (rest := []) ⟨hx, hb, hml, hown, hts⟩ (c_X1_wipe l dC dI cI cJ b1 b0 bw bq bf H.size w en pl cu li ld fb _ hc) (cwV 0 hts gL_law_X1_wipe rfl rfl rfl (by decide +kernel) ⟨Nat.le_of_ble_eq_true rfl, Nat.le_of_ble_eq_true rfl⟩) ⟨fun a U g mk q => ⟨q.1, jPr.blind q.2.1, jNs.blind q.2.2⟩, va_recv hK hPc (ci := 1) (q0 := 0) rfl rfl, fun U hU hW => ⟨rfl, jPr.mk hU hW hPc hK hDc, jNs.warm hW hN⟩⟩ rfl rfl hl.1 rfl (lv_room (Nat.le_of_ble_eq_true rfl)) dL_law_615 ⟨by show _ ≤ 1043; omega, by show _ ≤ 17001; omega⟩) hS (fun q _ h => hFc q h) hFc (fun rr u t H1 locs ht hvm hw9 hB hz1 hk1 hS => ?_)
  have hw8 : v1 = rr := hw9.symm
  subst hw8
  obtain ⟨hP1, hK1, hD1⟩ := hB
  rw [ht] at hP1
  obtain ⟨hP, hD⟩ := va_join (wr := ([(g0, .inr (2, [.int th, .ref gr, .int mn, .int at_, .ref gl, .int md_l, .ref gw, .int md, .ref gs, .int fr, .int no])), (gr, .inl (cI, 4096, .inl rw)), (gl, .inl (cJ, 100, .inr (.inl ml))), (gw, .inl (cI, 4200, .inl wd)), (gs, .inl (cJ, 92, .inr (.inl sm))), (bo, .inl (cJ, 1, .inr (.inl ou)))] : va_W)) (w1 := (wC cJ b1 b0 bw bq bf v2 v3 v4 cu li ld fb)) hP hD [0, 1, 2, 3, 4] [5, 6, 7, 8, 9, 10] rfl rfl (by decide) (by decide) hk1 hFc hP1 hD1
  replace hP := hP.sub (ws' := (wL cI cJ b1 b0 bw bq bf g0 gr gl gw gs bo v2 v3 v4 cu li ld fb th rw mn at_ ml md_l wd md sm fr no ou)) [6, 7, 8, 9, 10, 0, 1, 2, 3, 4, 5] rfl
  replace hD := hD.sub (ws' := (wL cI cJ b1 b0 bw bq bf g0 gr gl gw gs bo v2 v3 v4 cu li ld fb th rw mn at_ ml md_l wd md sm fr no ou)) [6, 7, 8, 9, 10, 0, 1, 2, 3, 4, 5] (by decide) rfl
  clear hk1 hP1 hK1 hD1 hvm hz1 hPc hDc hFc
  generalize H1 = H at hP hS ⊢
  refine W.widen (k := 11 + (kk + 1)) (n := 8761 + 6 * (kk + 1)) (by omega) (by omega) ?_
  have hP : va_P (dC, dI) vwCl (wL cI cJ b1 b0 bw bq bf g0 gr gl gw gs bo v2 v3 v4 cu li ld fb th rw mn at_ ml md_l wd md sm fr no ou) H := hP
  have hD : va_D A (wL cI cJ b1 b0 bw bq bf g0 gr gl gw gs bo v2 v3 v4 cu li ld fb th rw mn at_ ml md_l wd md sm fr no ou) := hD
  refine lv_aload_n hx hb dL_law_618 rfl (lv_at hl 2 rfl) ?_
  obtain ⟨⟨v5, v6, v7, v8⟩, hc, hj⟩ := ja_bd hj
  try dsimp only at hj
  have hPc := hP.sub (ws' := (wM cI cJ g0 gr gl gw gs th rw mn at_ ml md_l wd md sm fr no)) [5, 6, 7, 8, 9] rfl
  have hDc := hD.sub (ws' := (wM cI cJ g0 gr gl gw gs th rw mn at_ ml md_l wd md sm fr no)) [5, 6, 7, 8, 9] (by decide) rfl
  have hFc := va_free (wc := (wM cI cJ g0 gr gl gw gs th rw mn at_ ml md_l wd md sm fr no)) hD hS hA [5, 6, 7, 8, 9] rfl
  refine va_calli (va_runV (As := []) (rest := [.int v1]) ⟨hx, hb, hml, hown, hts⟩ (c_X2_wipe l dC dI cI cJ g0 gr gl gw gs H.size th rw mn at_ ml md_l wd md sm fr no _ hc) (cwV 0 hts gL_law_X2_wipe rfl rfl rfl (by decide +kernel) ⟨Nat.le_of_ble_eq_true rfl, Nat.le_of_ble_eq_true rfl⟩) ⟨fun a U g mk q => ⟨q.1, jPr.blind q.2⟩, va_recv hK hPc (ci := 2) (q0 := 0) rfl rfl, fun U hU hW => ⟨rfl, jPr.mk hU hW hPc hK hDc⟩⟩ rfl rfl hl.1 rfl (lv_room (Nat.le_of_ble_eq_true rfl)) dL_law_619 ⟨by show _ ≤ 1043; omega, by show _ ≤ 17001; omega⟩) hS (fun q _ h => hFc q h) hFc (fun rr u t H1 locs ht hvm hw9 hB hz1 hk1 hS => ?_)
  have hw8 : v5 = rr := hw9.symm
  subst hw8
  obtain ⟨hP1, hK1, hD1⟩ := hB
  rw [ht] at hP1
  obtain ⟨hP, hD⟩ := va_join (wr := ([(b1, .inr (1, [.ref b0, .ref bq, .ref bf, .int ld])), (b0, .inr (0, [.ref bw, .int v3, .int v4, .int cu])), (bw, .inl (cJ, 64, .inr (.inl v2))), (bq, .inl (cJ, 100, .inr (.inl li))), (bf, .inl (cJ, 89, .inr (.inl fb))), (bo, .inl (cJ, 1, .inr (.inl ou)))] : va_W)) (w1 := (wM cI cJ g0 gr gl gw gs v6 rw v7 v8 ml md_l wd md sm fr no)) hP hD [5, 6, 7, 8, 9] [0, 1, 2, 3, 4, 10] rfl rfl (by decide) (by decide) hk1 hFc hP1 hD1
  replace hP := hP.sub (ws' := (wL cI cJ b1 b0 bw bq bf g0 gr gl gw gs bo v2 v3 v4 cu li ld fb v6 rw v7 v8 ml md_l wd md sm fr no ou)) [0, 1, 2, 3, 4, 6, 7, 8, 9, 10, 5] rfl
  replace hD := hD.sub (ws' := (wL cI cJ b1 b0 bw bq bf g0 gr gl gw gs bo v2 v3 v4 cu li ld fb v6 rw v7 v8 ml md_l wd md sm fr no ou)) [0, 1, 2, 3, 4, 6, 7, 8, 9, 10, 5] (by decide) rfl
  clear hk1 hP1 hK1 hD1 hvm hz1 hPc hDc hFc
  generalize H1 = H at hP hS ⊢
  refine W.widen (k := 11 + (kk + 1)) (n := 8761 + 6 * (kk + 1)) (by omega) (by omega) ?_
  have hP : va_P (dC, dI) vwCl (wL cI cJ b1 b0 bw bq bf g0 gr gl gw gs bo v2 v3 v4 cu li ld fb v6 rw v7 v8 ml md_l wd md sm fr no ou) H := hP
  have hD : va_D A (wL cI cJ b1 b0 bw bq bf g0 gr gl gw gs bo v2 v3 v4 cu li ld fb v6 rw v7 v8 ml md_l wd md sm fr no ou) := hD
  refine lv_icmp_eq (tgt := 1465) hx hb dL_law_622 (by decide) (fun c9 => ?_) (fun c9 => ?_)
  · replace hj := ja_pos c9 hj
    have hr9 : (v2, v3, v4, cu, li, ld, fb, v6, rw, v7, v8, ml, md_l, wd, md, sm, fr, no, ou) = r := Option.some.inj hj
    subst hr9
    exact hk H locs ls hP hD hS (lv_sub hl [0, 1, 2, 3, 4] rfl)
  · replace hj := ja_neg c9 hj
    refine lv_iconst (v := (0 : Int32)) hx hb dL_law_625 (by decide) ?_
    cases hj
def jC_9 (w : Nat → Int64) (en : Int32) (pl : Int32) (cu : Int32) (li : Nat → Int64) (ld : Int32) (fb : Nat → Int64) (th : Int32) (rw : Nat → Int32) (mn : Int32) (at_ : Int32) (ml : Nat → Int64) (md_l : Int32) (wd : Nat → Int32) (md : Int32) (sm : Nat → Int64) (fr : Int32) (no : Int32) (ou : Nat → Int64) (v_1 v_2 v_3 v_4 : Int32) : Option (jSt9) :=
  (j_L_add li ld ou (((v_1.toInt64) <<< ((32 : Int32).toInt64 &&& 63)) ||| ((v_2.toInt64) &&& (4294967295 : Int64)))).bind fun (v1, v2, v3, v4) => ((j_X2_add th ml md_l (((v_1.toInt64) <<< ((32 : Int32).toInt64 &&& 63)) ||| ((v_2.toInt64) &&& (4294967295 : Int64)))).bind fun (v5, v6, v7, v8) => ((j_X2_thrown v6).bind fun v9 => (if v9 = v1 then (if v1 = (0 : Int32) then (if (v4 (0 : Int32).toNatClampNeg) = v5.toInt64 then (some (w, en, pl, cu, v2, v3, fb, v6, rw, mn, at_, v7, v8, wd, md, sm, fr, no, v4)) else (none)) else (some (w, en, pl, cu, v2, v3, fb, v6, rw, mn, at_, v7, v8, wd, md, sm, fr, no, v4))) else (none))))
set_option maxHeartbeats 4000000 in
set_option maxRecDepth 100000 in
theorem sl_9 {p : Program} {l : Launch} {e : Env} {s : State} {m : MethodId} {below : List Frame} {meth : Method} {c : Code} {dC : Nat → ClassId} {dI : Nat → Nat → Nat} {cI cJ : ClassId} {b L : Nat} {xs : Nat → Int32} (hlt : l.stackTraces = false) (C0 : sl_Cx p s m meth c b L xs) (hK : va_K (dC, dI) vwCl (jTy cI cJ) s) (hN : jNs s) (hXs : jXs (fun q : Nat => s.heap.size ≤ q) s) (hL : L ≤ 2560) (b1 : Nat) (b0 : Nat) (bw : Nat) (bq : Nat) (bf : Nat) (g0 : Nat) (gr : Nat) (gl : Nat) (gw : Nat) (gs : Nat) (bo : Nat) (w : Nat → Int64) (en : Int32) (pl : Int32) (cu : Int32) (li : Nat → Int64) (ld : Int32) (fb : Nat → Int64) (th : Int32) (rw : Nat → Int32) (mn : Int32) (at_ : Int32) (ml : Nat → Int64) (md_l : Int32) (wd : Nat → Int32) (md : Int32) (sm : Nat → Int64) (fr : Int32) (no : Int32) (ou : Nat → Int64) (i kk : Nat) (hi : i + 5 ≤ L) (hkk : kk < 512) (r : jSt9) (hj : jC_9 w en pl cu li ld fb th rw mn at_ ml md_l wd md sm fr no ou (xs (i + 1)) (xs (i + 2)) (xs (i + 3)) (xs (i + 4)) = some r)
    (hk : ∀ (H : Heap) (locs : List Loc) (ls : Array Slot), va_P (dC, dI) vwCl (wL cI cJ b1 b0 bw bq bf g0 gr gl gw gs bo r.1 r.2.1 r.2.2.1 r.2.2.2.1 r.2.2.2.2.1 r.2.2.2.2.2.1 r.2.2.2.2.2.2.1 r.2.2.2.2.2.2.2.1 r.2.2.2.2.2.2.2.2.1 r.2.2.2.2.2.2.2.2.2.1 r.2.2.2.2.2.2.2.2.2.2.1 r.2.2.2.2.2.2.2.2.2.2.2.1 r.2.2.2.2.2.2.2.2.2.2.2.2.1 r.2.2.2.2.2.2.2.2.2.2.2.2.2.1 r.2.2.2.2.2.2.2.2.2.2.2.2.2.2.1 r.2.2.2.2.2.2.2.2.2.2.2.2.2.2.2.1 r.2.2.2.2.2.2.2.2.2.2.2.2.2.2.2.2.1 r.2.2.2.2.2.2.2.2.2.2.2.2.2.2.2.2.2.1 r.2.2.2.2.2.2.2.2.2.2.2.2.2.2.2.2.2.2) H → va_D (fun q : Nat => s.heap.size ≤ q) (wL cI cJ b1 b0 bw bq bf g0 gr gl gw gs bo r.1 r.2.1 r.2.2.1 r.2.2.2.1 r.2.2.2.2.1 r.2.2.2.2.2.1 r.2.2.2.2.2.2.1 r.2.2.2.2.2.2.2.1 r.2.2.2.2.2.2.2.2.1 r.2.2.2.2.2.2.2.2.2.1 r.2.2.2.2.2.2.2.2.2.2.1 r.2.2.2.2.2.2.2.2.2.2.2.1 r.2.2.2.2.2.2.2.2.2.2.2.2.1 r.2.2.2.2.2.2.2.2.2.2.2.2.2.1 r.2.2.2.2.2.2.2.2.2.2.2.2.2.2.1 r.2.2.2.2.2.2.2.2.2.2.2.2.2.2.2.1 r.2.2.2.2.2.2.2.2.2.2.2.2.2.2.2.2.1 r.2.2.2.2.2.2.2.2.2.2.2.2.2.2.2.2.2.1 r.2.2.2.2.2.2.2.2.2.2.2.2.2.2.2.2.2.2) → va_S (fun q : Nat => s.heap.size ≤ q) s.heap H locs → lv_has ls 8 [(0, .ref b), (1, .ref b1), (2, .ref g0), (3, .ref bo), (4, .int (nI i))] → W p l e room_1 s m #[Value.ref b] below meth c H locs (11 + (kk + 1)) (8761 + 6 * (kk + 1)) (lw_Z below #[Value.ref b] s) (F0 m 1465 ls [])) :
    ∀ (H : Heap) (locs : List Loc) (ls : Array Slot), va_P (dC, dI) vwCl (wL cI cJ b1 b0 bw bq bf g0 gr gl gw gs bo w en pl cu li ld fb th rw mn at_ ml md_l wd md sm fr no ou) H → va_D (fun q : Nat => s.heap.size ≤ q) (wL cI cJ b1 b0 bw bq bf g0 gr gl gw gs bo w en pl cu li ld fb th rw mn at_ ml md_l wd md sm fr no ou) → va_S (fun q : Nat => s.heap.size ≤ q) s.heap H locs → lv_has ls 8 [(0, .ref b), (1, .ref b1), (2, .ref g0), (3, .ref bo), (4, .int (nI i))] → W p l e room_1 s m #[Value.ref b] below meth c H locs (11 + kk) (8761 + 6 * kk) (lw_Z below #[Value.ref b] s) (F0 m 627 ls []) := by
  obtain ⟨hx, hb, hr, hml, hown, hts, hX, hbl, hlocks⟩ := id C0
  have hA : ∀ q : Nat, s.heap.size ≤ q → (fun q : Nat => s.heap.size ≤ q) q := fun _ h => h
  have hbA : ¬ (fun q : Nat => s.heap.size ≤ q) b := Nat.not_le.mpr hbl
  intro H locs ls hP hD hS hl
  generalize hAe : (fun q : Nat => s.heap.size ≤ q) = A at hA hbA hXs hD hS hk ⊢
  clear hAe
  unfold jC_9 at hj
  refine lv_aload_n hx hb dL_law_627 rfl (lv_at hl 1 rfl) ?_
  refine lv_aload_n hx hb dL_law_628 rfl (lv_at hl 0 rfl) ?_
  refine lv_iload hx hb dL_law_629 (lv_at hl 4 rfl) ?_
  refine lv_iconst (v := (1 : Int32)) hx hb dL_law_631 (by decide) ?_
  refine lv_iadd hx hb dL_law_632 ?_
  refine sl_ld hx hb hX hbl hbA hS (j := i + 1) (by omega) hL (nI_add i 1) dL_law_633 ?_
  refine lv_i2l hx hb dL_law_634 rfl ?_
  refine lv_bipush (v := (32 : Int32)) hx hb dL_law_635 (by decide) ?_
  refine lv_lshl hx hb dL_law_637 rfl ?_
  refine lv_aload_n hx hb dL_law_638 rfl (lv_at hl 0 rfl) ?_
  refine lv_iload hx hb dL_law_639 (lv_at hl 4 rfl) ?_
  refine lv_iconst (v := (2 : Int32)) hx hb dL_law_641 (by decide) ?_
  refine lv_iadd hx hb dL_law_642 ?_
  refine sl_ld hx hb hX hbl hbA hS (j := i + 2) (by omega) hL (nI_add i 2) dL_law_643 ?_
  refine lv_i2l hx hb dL_law_644 rfl ?_
  refine lv_ldc2 (v := (4294967295 : Int64)) hx hb hown (hts (.constantLong RL 75 (4294967295)) (by decide +kernel)) dL_law_645 ?_
  refine lv_land hx hb dL_law_648 ?_
  refine lv_lor hx hb dL_law_649 ?_
  refine lv_aload_n hx hb dL_law_650 rfl (lv_at hl 3 rfl) ?_
  obtain ⟨⟨v1, v2, v3, v4⟩, hc, hj⟩ := ja_bd hj
  try dsimp only at hj
  have hPc := hP.sub (ws' := (wH cJ b1 b0 bw bq bf bo w en pl cu li ld fb ou)) [0, 1, 2, 3, 4, 10] rfl
  have hDc := hD.sub (ws' := (wH cJ b1 b0 bw bq bf bo w en pl cu li ld fb ou)) [0, 1, 2, 3, 4, 10] (by decide) rfl
  have hFc := va_free (wc := (wH cJ b1 b0 bw bq bf bo w en pl cu li ld fb ou)) hD hS hA [0, 1, 2, 3, 4, 10] rfl
  refine va_calli (vx_runSW (As := [.ref b1, .long ((((xs (i + 1)).toInt64) <<< ((32 : Int32).toInt64 &&& 63)) ||| (((xs (i + 2)).toInt64) &&& (4294967295 : Int64))), .ref bo]) (rest := []) ⟨hx, hb, hml, hown, hts⟩ (c_L_add l hlt dC dI cI cJ b1 b0 bw bq bf bo H.size w en pl cu li ld fb ou ((((xs (i + 1)).toInt64) <<< ((32 : Int32).toInt64 &&& 63)) ||| (((xs (i + 2)).toInt64) &&& (4294967295 : Int64))) _ hc) (vx_cwSW 3 hts gL_law_L_add rfl rfl rfl (by decide +kernel) ⟨Nat.le_of_ble_eq_true rfl, Nat.le_of_ble_eq_true rfl⟩) ⟨fun a U g mk q => ⟨q.1, jPr.blind q.2.1, jNs.blind q.2.2.1, jXs.blind q.2.2.2⟩, fun U hU hW => ⟨rfl, jPr.mk hU hW hPc hK hDc, jNs.warm hW hN, jXs.down hU hW hS hFc hXs⟩⟩ rfl rfl hl.1 rfl (lv_room (Nat.le_of_ble_eq_true rfl)) dL_law_651 ⟨by show _ ≤ 1043; omega, by show _ ≤ 17001; omega⟩) hS (fun q _ h => hFc q h) hFc (fun rr u t H1 locs ht hvm hw9 hB hz1 hk1 hS => ?_)
  have hw8 : v1 = rr := hw9.symm
  subst hw8
  obtain ⟨hP1, hK1, hD1⟩ := hB
  rw [ht] at hP1
  obtain ⟨hP, hD⟩ := va_join (wr := ([(g0, .inr (2, [.int th, .ref gr, .int mn, .int at_, .ref gl, .int md_l, .ref gw, .int md, .ref gs, .int fr, .int no])), (gr, .inl (cI, 4096, .inl rw)), (gl, .inl (cJ, 100, .inr (.inl ml))), (gw, .inl (cI, 4200, .inl wd)), (gs, .inl (cJ, 92, .inr (.inl sm)))] : va_W)) (w1 := (wH cJ b1 b0 bw bq bf bo w en pl cu v2 v3 fb v4)) hP hD [0, 1, 2, 3, 4, 10] [5, 6, 7, 8, 9] rfl rfl (by decide) (by decide) hk1 hFc hP1 hD1
  replace hP := hP.sub (ws' := (wL cI cJ b1 b0 bw bq bf g0 gr gl gw gs bo w en pl cu v2 v3 fb th rw mn at_ ml md_l wd md sm fr no v4)) [5, 6, 7, 8, 9, 0, 1, 2, 3, 4, 10] rfl
  replace hD := hD.sub (ws' := (wL cI cJ b1 b0 bw bq bf g0 gr gl gw gs bo w en pl cu v2 v3 fb th rw mn at_ ml md_l wd md sm fr no v4)) [5, 6, 7, 8, 9, 0, 1, 2, 3, 4, 10] (by decide) rfl
  clear hk1 hP1 hK1 hD1 hvm hz1 hPc hDc hFc
  generalize H1 = H at hP hS ⊢
  refine W.widen (k := 11 + (kk + 1)) (n := 8761 + 6 * (kk + 1)) (by omega) (by omega) ?_
  have hP : va_P (dC, dI) vwCl (wL cI cJ b1 b0 bw bq bf g0 gr gl gw gs bo w en pl cu v2 v3 fb th rw mn at_ ml md_l wd md sm fr no v4) H := hP
  have hD : va_D A (wL cI cJ b1 b0 bw bq bf g0 gr gl gw gs bo w en pl cu v2 v3 fb th rw mn at_ ml md_l wd md sm fr no v4) := hD
  refine lv_istore (lv' := [(5, .int v1), (0, .ref b), (1, .ref b1), (2, .ref g0), (3, .ref bo), (4, .int (nI i))]) hx hb dL_law_654 hl (by decide) rfl (fun ls hl => ?_)
  refine lv_aload_n hx hb dL_law_656 rfl (lv_at hl 3 rfl) ?_
  refine lv_aload_n hx hb dL_law_657 rfl (lv_at hl 1 rfl) ?_
  refine lv_iload hx hb dL_law_658 (lv_at hl 5 rfl) ?_
  refine lv_iconst (v := (1 : Int32)) hx hb dL_law_660 (by decide) ?_
  refine lv_iadd hx hb dL_law_661 ?_
  refine sl_ld hx hb hX hbl hbA hS (j := i + 1) (by omega) hL (nI_add i 1) dL_law_662 ?_
  refine lv_i2l hx hb dL_law_663 rfl ?_
  refine lv_bipush (v := (32 : Int32)) hx hb dL_law_664 (by decide) ?_
  refine lv_lshl hx hb dL_law_666 rfl ?_
  refine lv_aload_n hx hb dL_law_667 rfl (lv_at hl 1 rfl) ?_
  refine lv_iload hx hb dL_law_668 (lv_at hl 5 rfl) ?_
  refine lv_iconst (v := (2 : Int32)) hx hb dL_law_670 (by decide) ?_
  refine lv_iadd hx hb dL_law_671 ?_
  refine sl_ld hx hb hX hbl hbA hS (j := i + 2) (by omega) hL (nI_add i 2) dL_law_672 ?_
  refine lv_i2l hx hb dL_law_673 rfl ?_
  refine lv_ldc2 (v := (4294967295 : Int64)) hx hb hown (hts (.constantLong RL 75 (4294967295)) (by decide +kernel)) dL_law_674 ?_
  refine lv_land hx hb dL_law_677 ?_
  refine lv_lor hx hb dL_law_678 ?_
  obtain ⟨⟨v5, v6, v7, v8⟩, hc, hj⟩ := ja_bd hj
  try dsimp only at hj
  have hPc := hP.sub (ws' := (wM cI cJ g0 gr gl gw gs th rw mn at_ ml md_l wd md sm fr no)) [5, 6, 7, 8, 9] rfl
  have hDc := hD.sub (ws' := (wM cI cJ g0 gr gl gw gs th rw mn at_ ml md_l wd md sm fr no)) [5, 6, 7, 8, 9] (by decide) rfl
  have hFc := va_free (wc := (wM cI cJ g0 gr gl gw gs th rw mn at_ ml md_l wd md sm fr no)) hD hS hA [5, 6, 7, 8, 9] rfl
  refine va_calli (va_runV (As := [.long ((((xs (i + 1)).toInt64) <<< ((32 : Int32).toInt64 &&& 63)) ||| (((xs (i + 2)).toInt64) &&& (4294967295 : Int64)))]) (rest := []) ⟨hx, hb, hml, hown, hts⟩ (c_X2_add l dC dI cI cJ g0 gr gl gw gs H.size th rw mn at_ ml md_l wd md sm fr no ((((xs (i + 1)).toInt64) <<< ((32 : Int32).toInt64 &&& 63)) ||| (((xs (i + 2)).toInt64) &&& (4294967295 : Int64))) _ hc) (cwV 1 hts gL_law_X2_add rfl rfl rfl (by decide +kernel) ⟨Nat.le_of_ble_eq_true rfl, Nat.le_of_ble_eq_true rfl⟩) ⟨fun a U g mk q => ⟨q.1, jPr.blind q.2⟩, va_recv hK hPc (ci := 2) (q0 := 0) rfl rfl, fun U hU hW => ⟨rfl, jPr.mk hU hW hPc hK hDc⟩⟩ rfl rfl hl.1 rfl (lv_room (Nat.le_of_ble_eq_true rfl)) dL_law_679 ⟨by show _ ≤ 1043; omega, by show _ ≤ 17001; omega⟩) hS (fun q _ h => hFc q h) hFc (fun rr u t H1 locs ht hvm hw9 hB hz1 hk1 hS => ?_)
  have hw8 : v5 = rr := hw9.symm
  subst hw8
  obtain ⟨hP1, hK1, hD1⟩ := hB
  rw [ht] at hP1
  obtain ⟨hP, hD⟩ := va_join (wr := ([(b1, .inr (1, [.ref b0, .ref bq, .ref bf, .int v3])), (b0, .inr (0, [.ref bw, .int en, .int pl, .int cu])), (bw, .inl (cJ, 64, .inr (.inl w))), (bq, .inl (cJ, 100, .inr (.inl v2))), (bf, .inl (cJ, 89, .inr (.inl fb))), (bo, .inl (cJ, 1, .inr (.inl v4)))] : va_W)) (w1 := (wM cI cJ g0 gr gl gw gs v6 rw mn at_ v7 v8 wd md sm fr no)) hP hD [5, 6, 7, 8, 9] [0, 1, 2, 3, 4, 10] rfl rfl (by decide) (by decide) hk1 hFc hP1 hD1
  replace hP := hP.sub (ws' := (wL cI cJ b1 b0 bw bq bf g0 gr gl gw gs bo w en pl cu v2 v3 fb v6 rw mn at_ v7 v8 wd md sm fr no v4)) [0, 1, 2, 3, 4, 6, 7, 8, 9, 10, 5] rfl
  replace hD := hD.sub (ws' := (wL cI cJ b1 b0 bw bq bf g0 gr gl gw gs bo w en pl cu v2 v3 fb v6 rw mn at_ v7 v8 wd md sm fr no v4)) [0, 1, 2, 3, 4, 6, 7, 8, 9, 10, 5] (by decide) rfl
  clear hk1 hP1 hK1 hD1 hvm hz1 hPc hDc hFc
  generalize H1 = H at hP hS ⊢
  refine W.widen (k := 11 + (kk + 1)) (n := 8761 + 6 * (kk + 1)) (by omega) (by omega) ?_
  have hP : va_P (dC, dI) vwCl (wL cI cJ b1 b0 bw bq bf g0 gr gl gw gs bo w en pl cu v2 v3 fb v6 rw mn at_ v7 v8 wd md sm fr no v4) H := hP
  have hD : va_D A (wL cI cJ b1 b0 bw bq bf g0 gr gl gw gs bo w en pl cu v2 v3 fb v6 rw mn at_ v7 v8 wd md sm fr no v4) := hD
  refine lv_istore (lv' := [(6, .int v5), (5, .int v1), (0, .ref b), (1, .ref b1), (2, .ref g0), (3, .ref bo), (4, .int (nI i))]) hx hb dL_law_682 hl (by decide) rfl (fun ls hl => ?_)
  refine lv_aload_n hx hb dL_law_684 rfl (lv_at hl 4 rfl) ?_
  obtain ⟨v9, hc, hj⟩ := ja_bd hj
  try dsimp only at hj
  have hPc := hP.sub (ws' := (wM cI cJ g0 gr gl gw gs v6 rw mn at_ v7 v8 wd md sm fr no)) [5, 6, 7, 8, 9] rfl
  have hDc := hD.sub (ws' := (wM cI cJ g0 gr gl gw gs v6 rw mn at_ v7 v8 wd md sm fr no)) [5, 6, 7, 8, 9] (by decide) rfl
  have hFc := va_free (wc := (wM cI cJ g0 gr gl gw gs v6 rw mn at_ v7 v8 wd md sm fr no)) hD hS hA [5, 6, 7, 8, 9] rfl
  refine va_calli (va_runV (As := []) (rest := []) ⟨hx, hb, hml, hown, hts⟩ (c_X2_thrown l dC dI cI cJ g0 gr gl gw gs H.size v6 rw mn at_ v7 v8 wd md sm fr no _ hc) (cwV 0 hts gL_law_X2_thrown rfl rfl rfl (by decide +kernel) ⟨Nat.le_of_ble_eq_true rfl, Nat.le_of_ble_eq_true rfl⟩) ⟨fun a U g mk q => ⟨q.1, jPr.blind q.2⟩, va_recv hK hPc (ci := 2) (q0 := 0) rfl rfl, fun U hU hW => ⟨rfl, jPr.mk hU hW hPc hK hDc⟩⟩ rfl rfl hl.1 rfl (lv_room (Nat.le_of_ble_eq_true rfl)) dL_law_685 ⟨by show _ ≤ 1043; omega, by show _ ≤ 17001; omega⟩) hS (fun q _ h => hFc q h) hFc (fun rr u t H1 locs ht hvm hw9 hB hz1 hk1 hS => ?_)
  have hw8 : v9 = rr := hw9.symm
  subst hw8
  obtain ⟨hP1, hK1, hD1⟩ := hB
  rw [ht] at hP1
  obtain ⟨hP, hD⟩ := va_join (wr := ([(b1, .inr (1, [.ref b0, .ref bq, .ref bf, .int v3])), (b0, .inr (0, [.ref bw, .int en, .int pl, .int cu])), (bw, .inl (cJ, 64, .inr (.inl w))), (bq, .inl (cJ, 100, .inr (.inl v2))), (bf, .inl (cJ, 89, .inr (.inl fb))), (bo, .inl (cJ, 1, .inr (.inl v4)))] : va_W)) (w1 := (wM cI cJ g0 gr gl gw gs v6 rw mn at_ v7 v8 wd md sm fr no)) hP hD [5, 6, 7, 8, 9] [0, 1, 2, 3, 4, 10] rfl rfl (by decide) (by decide) hk1 hFc hP1 hD1
  replace hP := hP.sub (ws' := (wL cI cJ b1 b0 bw bq bf g0 gr gl gw gs bo w en pl cu v2 v3 fb v6 rw mn at_ v7 v8 wd md sm fr no v4)) [0, 1, 2, 3, 4, 6, 7, 8, 9, 10, 5] rfl
  replace hD := hD.sub (ws' := (wL cI cJ b1 b0 bw bq bf g0 gr gl gw gs bo w en pl cu v2 v3 fb v6 rw mn at_ v7 v8 wd md sm fr no v4)) [0, 1, 2, 3, 4, 6, 7, 8, 9, 10, 5] (by decide) rfl
  clear hk1 hP1 hK1 hD1 hvm hz1 hPc hDc hFc
  generalize H1 = H at hP hS ⊢
  refine W.widen (k := 11 + (kk + 1)) (n := 8761 + 6 * (kk + 1)) (by omega) (by omega) ?_
  have hP : va_P (dC, dI) vwCl (wL cI cJ b1 b0 bw bq bf g0 gr gl gw gs bo w en pl cu v2 v3 fb v6 rw mn at_ v7 v8 wd md sm fr no v4) H := hP
  have hD : va_D A (wL cI cJ b1 b0 bw bq bf g0 gr gl gw gs bo w en pl cu v2 v3 fb v6 rw mn at_ v7 v8 wd md sm fr no v4) := hD
  refine lv_iload hx hb dL_law_688 (lv_at hl 1 rfl) ?_
  refine lv_icmp_eq (tgt := 695) hx hb dL_law_690 (by decide) (fun c10 => ?_) (fun c10 => ?_)
  · replace hj := ja_pos c10 hj
    refine lv_iload hx hb dL_law_695 (lv_at hl 1 rfl) ?_
    refine lv_if_ne (tgt := 712) hx hb dL_law_697 (by decide) (fun c11 => ?_) (fun c11 => ?_)
    · replace hj := ja_neg c11 hj
      refine lv_goto (tgt := 1465) hx hb dL_law_712 (by decide) ?_
      have hr9 : (w, en, pl, cu, v2, v3, fb, v6, rw, mn, at_, v7, v8, wd, md, sm, fr, no, v4) = r := Option.some.inj hj
      subst hr9
      exact hk H locs ls hP hD hS (lv_sub hl [2, 3, 4, 5, 6] rfl)
    · replace hj := ja_pos c11 hj
      refine lv_aload_n hx hb dL_law_700 rfl (lv_at hl 5 rfl) ?_
      refine lv_iconst (v := (0 : Int32)) hx hb dL_law_701 (by decide) ?_
      refine va_lald hx hb hK hP 10 1 rfl rfl (show vp_in (0 : Int32) 1 by unfold vp_in; decide) dL_law_702 ?_
      refine lv_iload hx hb dL_law_703 (lv_at hl 0 rfl) ?_
      refine lv_i2l hx hb dL_law_705 rfl ?_
      refine W.lcmp hx hb dL_law_706 ?_
      refine lv_if_eq (tgt := 712) hx hb dL_law_707 (by decide) (fun c12 => ?_) (fun c12 => ?_)
      · replace hj := ja_pos ((lg_cmp_eq (v4 (0 : Int32).toNatClampNeg) v5.toInt64).mp c12) hj
        refine lv_goto (tgt := 1465) hx hb dL_law_712 (by decide) ?_
        have hr9 : (w, en, pl, cu, v2, v3, fb, v6, rw, mn, at_, v7, v8, wd, md, sm, fr, no, v4) = r := Option.some.inj hj
        subst hr9
        exact hk H locs ls hP hD hS (lv_sub hl [2, 3, 4, 5, 6] rfl)
      · replace hj := ja_neg (fun h9 => c12 ((lg_cmp_eq (v4 (0 : Int32).toNatClampNeg) v5.toInt64).mpr h9)) hj
        refine lv_iconst (v := (0 : Int32)) hx hb dL_law_710 (by decide) ?_
        cases hj
  · replace hj := ja_neg c10 hj
    refine lv_iconst (v := (0 : Int32)) hx hb dL_law_693 (by decide) ?_
    cases hj
def jC_10 (w : Nat → Int64) (en : Int32) (pl : Int32) (cu : Int32) (li : Nat → Int64) (ld : Int32) (fb : Nat → Int64) (th : Int32) (rw : Nat → Int32) (mn : Int32) (at_ : Int32) (ml : Nat → Int64) (md_l : Int32) (wd : Nat → Int32) (md : Int32) (sm : Nat → Int64) (fr : Int32) (no : Int32) (ou : Nat → Int64) (v_1 v_2 v_3 v_4 : Int32) : Option (jSt9) :=
  (j_L_get li ld ou v_1).bind fun (v1, v2) => ((j_X2_get th ml md_l v_1).bind fun (v3, v4) => ((j_X2_thrown v4).bind fun v5 => (if v5 = v1 then (if v1 = (0 : Int32) then (if (v2 (0 : Int32).toNatClampNeg) = v3 then (some (w, en, pl, cu, li, ld, fb, v4, rw, mn, at_, ml, md_l, wd, md, sm, fr, no, v2)) else (none)) else (some (w, en, pl, cu, li, ld, fb, v4, rw, mn, at_, ml, md_l, wd, md, sm, fr, no, v2))) else (none))))
set_option maxHeartbeats 4000000 in
set_option maxRecDepth 100000 in
theorem sl_10 {p : Program} {l : Launch} {e : Env} {s : State} {m : MethodId} {below : List Frame} {meth : Method} {c : Code} {dC : Nat → ClassId} {dI : Nat → Nat → Nat} {cI cJ : ClassId} {b L : Nat} {xs : Nat → Int32} (hlt : l.stackTraces = false) (C0 : sl_Cx p s m meth c b L xs) (hK : va_K (dC, dI) vwCl (jTy cI cJ) s) (hN : jNs s) (hXs : jXs (fun q : Nat => s.heap.size ≤ q) s) (hL : L ≤ 2560) (b1 : Nat) (b0 : Nat) (bw : Nat) (bq : Nat) (bf : Nat) (g0 : Nat) (gr : Nat) (gl : Nat) (gw : Nat) (gs : Nat) (bo : Nat) (w : Nat → Int64) (en : Int32) (pl : Int32) (cu : Int32) (li : Nat → Int64) (ld : Int32) (fb : Nat → Int64) (th : Int32) (rw : Nat → Int32) (mn : Int32) (at_ : Int32) (ml : Nat → Int64) (md_l : Int32) (wd : Nat → Int32) (md : Int32) (sm : Nat → Int64) (fr : Int32) (no : Int32) (ou : Nat → Int64) (i kk : Nat) (hi : i + 5 ≤ L) (hkk : kk < 512) (r : jSt9) (hj : jC_10 w en pl cu li ld fb th rw mn at_ ml md_l wd md sm fr no ou (xs (i + 1)) (xs (i + 2)) (xs (i + 3)) (xs (i + 4)) = some r)
    (hk : ∀ (H : Heap) (locs : List Loc) (ls : Array Slot), va_P (dC, dI) vwCl (wL cI cJ b1 b0 bw bq bf g0 gr gl gw gs bo r.1 r.2.1 r.2.2.1 r.2.2.2.1 r.2.2.2.2.1 r.2.2.2.2.2.1 r.2.2.2.2.2.2.1 r.2.2.2.2.2.2.2.1 r.2.2.2.2.2.2.2.2.1 r.2.2.2.2.2.2.2.2.2.1 r.2.2.2.2.2.2.2.2.2.2.1 r.2.2.2.2.2.2.2.2.2.2.2.1 r.2.2.2.2.2.2.2.2.2.2.2.2.1 r.2.2.2.2.2.2.2.2.2.2.2.2.2.1 r.2.2.2.2.2.2.2.2.2.2.2.2.2.2.1 r.2.2.2.2.2.2.2.2.2.2.2.2.2.2.2.1 r.2.2.2.2.2.2.2.2.2.2.2.2.2.2.2.2.1 r.2.2.2.2.2.2.2.2.2.2.2.2.2.2.2.2.2.1 r.2.2.2.2.2.2.2.2.2.2.2.2.2.2.2.2.2.2) H → va_D (fun q : Nat => s.heap.size ≤ q) (wL cI cJ b1 b0 bw bq bf g0 gr gl gw gs bo r.1 r.2.1 r.2.2.1 r.2.2.2.1 r.2.2.2.2.1 r.2.2.2.2.2.1 r.2.2.2.2.2.2.1 r.2.2.2.2.2.2.2.1 r.2.2.2.2.2.2.2.2.1 r.2.2.2.2.2.2.2.2.2.1 r.2.2.2.2.2.2.2.2.2.2.1 r.2.2.2.2.2.2.2.2.2.2.2.1 r.2.2.2.2.2.2.2.2.2.2.2.2.1 r.2.2.2.2.2.2.2.2.2.2.2.2.2.1 r.2.2.2.2.2.2.2.2.2.2.2.2.2.2.1 r.2.2.2.2.2.2.2.2.2.2.2.2.2.2.2.1 r.2.2.2.2.2.2.2.2.2.2.2.2.2.2.2.2.1 r.2.2.2.2.2.2.2.2.2.2.2.2.2.2.2.2.2.1 r.2.2.2.2.2.2.2.2.2.2.2.2.2.2.2.2.2.2) → va_S (fun q : Nat => s.heap.size ≤ q) s.heap H locs → lv_has ls 8 [(0, .ref b), (1, .ref b1), (2, .ref g0), (3, .ref bo), (4, .int (nI i))] → W p l e room_1 s m #[Value.ref b] below meth c H locs (11 + (kk + 1)) (8761 + 6 * (kk + 1)) (lw_Z below #[Value.ref b] s) (F0 m 1465 ls [])) :
    ∀ (H : Heap) (locs : List Loc) (ls : Array Slot), va_P (dC, dI) vwCl (wL cI cJ b1 b0 bw bq bf g0 gr gl gw gs bo w en pl cu li ld fb th rw mn at_ ml md_l wd md sm fr no ou) H → va_D (fun q : Nat => s.heap.size ≤ q) (wL cI cJ b1 b0 bw bq bf g0 gr gl gw gs bo w en pl cu li ld fb th rw mn at_ ml md_l wd md sm fr no ou) → va_S (fun q : Nat => s.heap.size ≤ q) s.heap H locs → lv_has ls 8 [(0, .ref b), (1, .ref b1), (2, .ref g0), (3, .ref bo), (4, .int (nI i))] → W p l e room_1 s m #[Value.ref b] below meth c H locs (11 + kk) (8761 + 6 * kk) (lw_Z below #[Value.ref b] s) (F0 m 715 ls []) := by
  obtain ⟨hx, hb, hr, hml, hown, hts, hX, hbl, hlocks⟩ := id C0
  have hA : ∀ q : Nat, s.heap.size ≤ q → (fun q : Nat => s.heap.size ≤ q) q := fun _ h => h
  have hbA : ¬ (fun q : Nat => s.heap.size ≤ q) b := Nat.not_le.mpr hbl
  intro H locs ls hP hD hS hl
  generalize hAe : (fun q : Nat => s.heap.size ≤ q) = A at hA hbA hXs hD hS hk ⊢
  clear hAe
  unfold jC_10 at hj
  refine lv_aload_n hx hb dL_law_715 rfl (lv_at hl 1 rfl) ?_
  refine lv_aload_n hx hb dL_law_716 rfl (lv_at hl 0 rfl) ?_
  refine lv_iload hx hb dL_law_717 (lv_at hl 4 rfl) ?_
  refine lv_iconst (v := (1 : Int32)) hx hb dL_law_719 (by decide) ?_
  refine lv_iadd hx hb dL_law_720 ?_
  refine sl_ld hx hb hX hbl hbA hS (j := i + 1) (by omega) hL (nI_add i 1) dL_law_721 ?_
  refine lv_aload_n hx hb dL_law_722 rfl (lv_at hl 3 rfl) ?_
  obtain ⟨⟨v1, v2⟩, hc, hj⟩ := ja_bd hj
  try dsimp only at hj
  have hPc := hP.sub (ws' := (wH cJ b1 b0 bw bq bf bo w en pl cu li ld fb ou)) [0, 1, 2, 3, 4, 10] rfl
  have hDc := hD.sub (ws' := (wH cJ b1 b0 bw bq bf bo w en pl cu li ld fb ou)) [0, 1, 2, 3, 4, 10] (by decide) rfl
  have hFc := va_free (wc := (wH cJ b1 b0 bw bq bf bo w en pl cu li ld fb ou)) hD hS hA [0, 1, 2, 3, 4, 10] rfl
  refine va_calli (vx_runSW (As := [.ref b1, .int (xs (i + 1)), .ref bo]) (rest := []) ⟨hx, hb, hml, hown, hts⟩ (c_L_get l hlt dC dI cI cJ b1 b0 bw bq bf bo H.size w en pl cu li ld fb ou (xs (i + 1)) _ hc) (vx_cwSW 3 hts gL_law_L_get rfl rfl rfl (by decide +kernel) ⟨Nat.le_of_ble_eq_true rfl, Nat.le_of_ble_eq_true rfl⟩) ⟨fun a U g mk q => ⟨q.1, jPr.blind q.2.1, jNs.blind q.2.2.1, jXs.blind q.2.2.2⟩, fun U hU hW => ⟨rfl, jPr.mk hU hW hPc hK hDc, jNs.warm hW hN, jXs.down hU hW hS hFc hXs⟩⟩ rfl rfl hl.1 rfl (lv_room (Nat.le_of_ble_eq_true rfl)) dL_law_723 ⟨by show _ ≤ 1043; omega, by show _ ≤ 17001; omega⟩) hS (fun q _ h => hFc q h) hFc (fun rr u t H1 locs ht hvm hw9 hB hz1 hk1 hS => ?_)
  have hw8 : v1 = rr := hw9.symm
  subst hw8
  obtain ⟨hP1, hK1, hD1⟩ := hB
  rw [ht] at hP1
  obtain ⟨hP, hD⟩ := va_join (wr := ([(g0, .inr (2, [.int th, .ref gr, .int mn, .int at_, .ref gl, .int md_l, .ref gw, .int md, .ref gs, .int fr, .int no])), (gr, .inl (cI, 4096, .inl rw)), (gl, .inl (cJ, 100, .inr (.inl ml))), (gw, .inl (cI, 4200, .inl wd)), (gs, .inl (cJ, 92, .inr (.inl sm)))] : va_W)) (w1 := (wH cJ b1 b0 bw bq bf bo w en pl cu li ld fb v2)) hP hD [0, 1, 2, 3, 4, 10] [5, 6, 7, 8, 9] rfl rfl (by decide) (by decide) hk1 hFc hP1 hD1
  replace hP := hP.sub (ws' := (wL cI cJ b1 b0 bw bq bf g0 gr gl gw gs bo w en pl cu li ld fb th rw mn at_ ml md_l wd md sm fr no v2)) [5, 6, 7, 8, 9, 0, 1, 2, 3, 4, 10] rfl
  replace hD := hD.sub (ws' := (wL cI cJ b1 b0 bw bq bf g0 gr gl gw gs bo w en pl cu li ld fb th rw mn at_ ml md_l wd md sm fr no v2)) [5, 6, 7, 8, 9, 0, 1, 2, 3, 4, 10] (by decide) rfl
  clear hk1 hP1 hK1 hD1 hvm hz1 hPc hDc hFc
  generalize H1 = H at hP hS ⊢
  refine W.widen (k := 11 + (kk + 1)) (n := 8761 + 6 * (kk + 1)) (by omega) (by omega) ?_
  have hP : va_P (dC, dI) vwCl (wL cI cJ b1 b0 bw bq bf g0 gr gl gw gs bo w en pl cu li ld fb th rw mn at_ ml md_l wd md sm fr no v2) H := hP
  have hD : va_D A (wL cI cJ b1 b0 bw bq bf g0 gr gl gw gs bo w en pl cu li ld fb th rw mn at_ ml md_l wd md sm fr no v2) := hD
  refine lv_istore (lv' := [(5, .int v1), (0, .ref b), (1, .ref b1), (2, .ref g0), (3, .ref bo), (4, .int (nI i))]) hx hb dL_law_726 hl (by decide) rfl (fun ls hl => ?_)
  refine lv_aload_n hx hb dL_law_728 rfl (lv_at hl 3 rfl) ?_
  refine lv_aload_n hx hb dL_law_729 rfl (lv_at hl 1 rfl) ?_
  refine lv_iload hx hb dL_law_730 (lv_at hl 5 rfl) ?_
  refine lv_iconst (v := (1 : Int32)) hx hb dL_law_732 (by decide) ?_
  refine lv_iadd hx hb dL_law_733 ?_
  refine sl_ld hx hb hX hbl hbA hS (j := i + 1) (by omega) hL (nI_add i 1) dL_law_734 ?_
  obtain ⟨⟨v3, v4⟩, hc, hj⟩ := ja_bd hj
  try dsimp only at hj
  have hPc := hP.sub (ws' := (wM cI cJ g0 gr gl gw gs th rw mn at_ ml md_l wd md sm fr no)) [5, 6, 7, 8, 9] rfl
  have hDc := hD.sub (ws' := (wM cI cJ g0 gr gl gw gs th rw mn at_ ml md_l wd md sm fr no)) [5, 6, 7, 8, 9] (by decide) rfl
  have hFc := va_free (wc := (wM cI cJ g0 gr gl gw gs th rw mn at_ ml md_l wd md sm fr no)) hD hS hA [5, 6, 7, 8, 9] rfl
  refine va_calll (va_runV (As := [.int (xs (i + 1))]) (rest := []) ⟨hx, hb, hml, hown, hts⟩ (c_X2_get l dC dI cI cJ g0 gr gl gw gs H.size th rw mn at_ ml md_l wd md sm fr no (xs (i + 1)) _ hc) (cwV 1 hts gL_law_X2_get rfl rfl rfl (by decide +kernel) ⟨Nat.le_of_ble_eq_true rfl, Nat.le_of_ble_eq_true rfl⟩) ⟨fun a U g mk q => ⟨q.1, jPr.blind q.2⟩, va_recv hK hPc (ci := 2) (q0 := 0) rfl rfl, fun U hU hW => ⟨rfl, jPr.mk hU hW hPc hK hDc⟩⟩ rfl rfl hl.1 rfl (lv_room (Nat.le_of_ble_eq_true rfl)) dL_law_735 ⟨by show _ ≤ 1043; omega, by show _ ≤ 17001; omega⟩) hS (fun q _ h => hFc q h) hFc (fun rr u t H1 locs ht hvm hw9 hB hz1 hk1 hS => ?_)
  have hw8 : v3 = rr := hw9.symm
  subst hw8
  obtain ⟨hP1, hK1, hD1⟩ := hB
  rw [ht] at hP1
  obtain ⟨hP, hD⟩ := va_join (wr := ([(b1, .inr (1, [.ref b0, .ref bq, .ref bf, .int ld])), (b0, .inr (0, [.ref bw, .int en, .int pl, .int cu])), (bw, .inl (cJ, 64, .inr (.inl w))), (bq, .inl (cJ, 100, .inr (.inl li))), (bf, .inl (cJ, 89, .inr (.inl fb))), (bo, .inl (cJ, 1, .inr (.inl v2)))] : va_W)) (w1 := (wM cI cJ g0 gr gl gw gs v4 rw mn at_ ml md_l wd md sm fr no)) hP hD [5, 6, 7, 8, 9] [0, 1, 2, 3, 4, 10] rfl rfl (by decide) (by decide) hk1 hFc hP1 hD1
  replace hP := hP.sub (ws' := (wL cI cJ b1 b0 bw bq bf g0 gr gl gw gs bo w en pl cu li ld fb v4 rw mn at_ ml md_l wd md sm fr no v2)) [0, 1, 2, 3, 4, 6, 7, 8, 9, 10, 5] rfl
  replace hD := hD.sub (ws' := (wL cI cJ b1 b0 bw bq bf g0 gr gl gw gs bo w en pl cu li ld fb v4 rw mn at_ ml md_l wd md sm fr no v2)) [0, 1, 2, 3, 4, 6, 7, 8, 9, 10, 5] (by decide) rfl
  clear hk1 hP1 hK1 hD1 hvm hz1 hPc hDc hFc
  generalize H1 = H at hP hS ⊢
  refine W.widen (k := 11 + (kk + 1)) (n := 8761 + 6 * (kk + 1)) (by omega) (by omega) ?_
  have hP : va_P (dC, dI) vwCl (wL cI cJ b1 b0 bw bq bf g0 gr gl gw gs bo w en pl cu li ld fb v4 rw mn at_ ml md_l wd md sm fr no v2) H := hP
  have hD : va_D A (wL cI cJ b1 b0 bw bq bf g0 gr gl gw gs bo w en pl cu li ld fb v4 rw mn at_ ml md_l wd md sm fr no v2) := hD
  refine lv_lstore (lv' := [(6, .long v3), (5, .int v1), (0, .ref b), (1, .ref b1), (2, .ref g0), (3, .ref bo), (4, .int (nI i))]) hx hb dL_law_738 hl (by decide) rfl (fun ls hl => ?_)
  refine lv_aload_n hx hb dL_law_740 rfl (lv_at hl 4 rfl) ?_
  obtain ⟨v5, hc, hj⟩ := ja_bd hj
  try dsimp only at hj
  have hPc := hP.sub (ws' := (wM cI cJ g0 gr gl gw gs v4 rw mn at_ ml md_l wd md sm fr no)) [5, 6, 7, 8, 9] rfl
  have hDc := hD.sub (ws' := (wM cI cJ g0 gr gl gw gs v4 rw mn at_ ml md_l wd md sm fr no)) [5, 6, 7, 8, 9] (by decide) rfl
  have hFc := va_free (wc := (wM cI cJ g0 gr gl gw gs v4 rw mn at_ ml md_l wd md sm fr no)) hD hS hA [5, 6, 7, 8, 9] rfl
  refine va_calli (va_runV (As := []) (rest := []) ⟨hx, hb, hml, hown, hts⟩ (c_X2_thrown l dC dI cI cJ g0 gr gl gw gs H.size v4 rw mn at_ ml md_l wd md sm fr no _ hc) (cwV 0 hts gL_law_X2_thrown rfl rfl rfl (by decide +kernel) ⟨Nat.le_of_ble_eq_true rfl, Nat.le_of_ble_eq_true rfl⟩) ⟨fun a U g mk q => ⟨q.1, jPr.blind q.2⟩, va_recv hK hPc (ci := 2) (q0 := 0) rfl rfl, fun U hU hW => ⟨rfl, jPr.mk hU hW hPc hK hDc⟩⟩ rfl rfl hl.1 rfl (lv_room (Nat.le_of_ble_eq_true rfl)) dL_law_741 ⟨by show _ ≤ 1043; omega, by show _ ≤ 17001; omega⟩) hS (fun q _ h => hFc q h) hFc (fun rr u t H1 locs ht hvm hw9 hB hz1 hk1 hS => ?_)
  have hw8 : v5 = rr := hw9.symm
  subst hw8
  obtain ⟨hP1, hK1, hD1⟩ := hB
  rw [ht] at hP1
  obtain ⟨hP, hD⟩ := va_join (wr := ([(b1, .inr (1, [.ref b0, .ref bq, .ref bf, .int ld])), (b0, .inr (0, [.ref bw, .int en, .int pl, .int cu])), (bw, .inl (cJ, 64, .inr (.inl w))), (bq, .inl (cJ, 100, .inr (.inl li))), (bf, .inl (cJ, 89, .inr (.inl fb))), (bo, .inl (cJ, 1, .inr (.inl v2)))] : va_W)) (w1 := (wM cI cJ g0 gr gl gw gs v4 rw mn at_ ml md_l wd md sm fr no)) hP hD [5, 6, 7, 8, 9] [0, 1, 2, 3, 4, 10] rfl rfl (by decide) (by decide) hk1 hFc hP1 hD1
  replace hP := hP.sub (ws' := (wL cI cJ b1 b0 bw bq bf g0 gr gl gw gs bo w en pl cu li ld fb v4 rw mn at_ ml md_l wd md sm fr no v2)) [0, 1, 2, 3, 4, 6, 7, 8, 9, 10, 5] rfl
  replace hD := hD.sub (ws' := (wL cI cJ b1 b0 bw bq bf g0 gr gl gw gs bo w en pl cu li ld fb v4 rw mn at_ ml md_l wd md sm fr no v2)) [0, 1, 2, 3, 4, 6, 7, 8, 9, 10, 5] (by decide) rfl
  clear hk1 hP1 hK1 hD1 hvm hz1 hPc hDc hFc
  generalize H1 = H at hP hS ⊢
  refine W.widen (k := 11 + (kk + 1)) (n := 8761 + 6 * (kk + 1)) (by omega) (by omega) ?_
  have hP : va_P (dC, dI) vwCl (wL cI cJ b1 b0 bw bq bf g0 gr gl gw gs bo w en pl cu li ld fb v4 rw mn at_ ml md_l wd md sm fr no v2) H := hP
  have hD : va_D A (wL cI cJ b1 b0 bw bq bf g0 gr gl gw gs bo w en pl cu li ld fb v4 rw mn at_ ml md_l wd md sm fr no v2) := hD
  refine lv_iload hx hb dL_law_744 (lv_at hl 1 rfl) ?_
  refine lv_icmp_eq (tgt := 751) hx hb dL_law_746 (by decide) (fun c6 => ?_) (fun c6 => ?_)
  · replace hj := ja_pos c6 hj
    refine lv_iload hx hb dL_law_751 (lv_at hl 1 rfl) ?_
    refine lv_if_ne (tgt := 767) hx hb dL_law_753 (by decide) (fun c7 => ?_) (fun c7 => ?_)
    · replace hj := ja_neg c7 hj
      refine lv_goto (tgt := 1465) hx hb dL_law_767 (by decide) ?_
      have hr9 : (w, en, pl, cu, li, ld, fb, v4, rw, mn, at_, ml, md_l, wd, md, sm, fr, no, v2) = r := Option.some.inj hj
      subst hr9
      exact hk H locs ls hP hD hS (lv_sub hl [2, 3, 4, 5, 6] rfl)
    · replace hj := ja_pos c7 hj
      refine lv_aload_n hx hb dL_law_756 rfl (lv_at hl 5 rfl) ?_
      refine lv_iconst (v := (0 : Int32)) hx hb dL_law_757 (by decide) ?_
      refine va_lald hx hb hK hP 10 1 rfl rfl (show vp_in (0 : Int32) 1 by unfold vp_in; decide) dL_law_758 ?_
      refine lv_lload hx hb dL_law_759 (lv_at hl 0 rfl) ?_
      refine W.lcmp hx hb dL_law_761 ?_
      refine lv_if_eq (tgt := 767) hx hb dL_law_762 (by decide) (fun c8 => ?_) (fun c8 => ?_)
      · replace hj := ja_pos ((lg_cmp_eq (v2 (0 : Int32).toNatClampNeg) v3).mp c8) hj
        refine lv_goto (tgt := 1465) hx hb dL_law_767 (by decide) ?_
        have hr9 : (w, en, pl, cu, li, ld, fb, v4, rw, mn, at_, ml, md_l, wd, md, sm, fr, no, v2) = r := Option.some.inj hj
        subst hr9
        exact hk H locs ls hP hD hS (lv_sub hl [2, 3, 4, 5, 6] rfl)
      · replace hj := ja_neg (fun h9 => c8 ((lg_cmp_eq (v2 (0 : Int32).toNatClampNeg) v3).mpr h9)) hj
        refine lv_iconst (v := (0 : Int32)) hx hb dL_law_765 (by decide) ?_
        cases hj
  · replace hj := ja_neg c6 hj
    refine lv_iconst (v := (0 : Int32)) hx hb dL_law_749 (by decide) ?_
    cases hj
def jC_11 (w : Nat → Int64) (en : Int32) (pl : Int32) (cu : Int32) (li : Nat → Int64) (ld : Int32) (fb : Nat → Int64) (th : Int32) (rw : Nat → Int32) (mn : Int32) (at_ : Int32) (ml : Nat → Int64) (md_l : Int32) (wd : Nat → Int32) (md : Int32) (sm : Nat → Int64) (fr : Int32) (no : Int32) (ou : Nat → Int64) (v_1 v_2 v_3 v_4 : Int32) : Option (jSt9) :=
  (j_X1_clear ld).bind fun (v1, v2) => ((j_X2_clear th md_l).bind fun (v3, v4, v5) => (if v1 = v3 then (some (w, en, pl, cu, li, v2, fb, v4, rw, mn, at_, ml, v5, wd, md, sm, fr, no, ou)) else (none)))
set_option maxHeartbeats 4000000 in
set_option maxRecDepth 100000 in
theorem sl_11 {p : Program} {l : Launch} {e : Env} {s : State} {m : MethodId} {below : List Frame} {meth : Method} {c : Code} {dC : Nat → ClassId} {dI : Nat → Nat → Nat} {cI cJ : ClassId} {b L : Nat} {xs : Nat → Int32} (hlt : l.stackTraces = false) (C0 : sl_Cx p s m meth c b L xs) (hK : va_K (dC, dI) vwCl (jTy cI cJ) s) (hN : jNs s) (hXs : jXs (fun q : Nat => s.heap.size ≤ q) s) (hL : L ≤ 2560) (b1 : Nat) (b0 : Nat) (bw : Nat) (bq : Nat) (bf : Nat) (g0 : Nat) (gr : Nat) (gl : Nat) (gw : Nat) (gs : Nat) (bo : Nat) (w : Nat → Int64) (en : Int32) (pl : Int32) (cu : Int32) (li : Nat → Int64) (ld : Int32) (fb : Nat → Int64) (th : Int32) (rw : Nat → Int32) (mn : Int32) (at_ : Int32) (ml : Nat → Int64) (md_l : Int32) (wd : Nat → Int32) (md : Int32) (sm : Nat → Int64) (fr : Int32) (no : Int32) (ou : Nat → Int64) (i kk : Nat) (hi : i + 5 ≤ L) (hkk : kk < 512) (r : jSt9) (hj : jC_11 w en pl cu li ld fb th rw mn at_ ml md_l wd md sm fr no ou (xs (i + 1)) (xs (i + 2)) (xs (i + 3)) (xs (i + 4)) = some r)
    (hk : ∀ (H : Heap) (locs : List Loc) (ls : Array Slot), va_P (dC, dI) vwCl (wL cI cJ b1 b0 bw bq bf g0 gr gl gw gs bo r.1 r.2.1 r.2.2.1 r.2.2.2.1 r.2.2.2.2.1 r.2.2.2.2.2.1 r.2.2.2.2.2.2.1 r.2.2.2.2.2.2.2.1 r.2.2.2.2.2.2.2.2.1 r.2.2.2.2.2.2.2.2.2.1 r.2.2.2.2.2.2.2.2.2.2.1 r.2.2.2.2.2.2.2.2.2.2.2.1 r.2.2.2.2.2.2.2.2.2.2.2.2.1 r.2.2.2.2.2.2.2.2.2.2.2.2.2.1 r.2.2.2.2.2.2.2.2.2.2.2.2.2.2.1 r.2.2.2.2.2.2.2.2.2.2.2.2.2.2.2.1 r.2.2.2.2.2.2.2.2.2.2.2.2.2.2.2.2.1 r.2.2.2.2.2.2.2.2.2.2.2.2.2.2.2.2.2.1 r.2.2.2.2.2.2.2.2.2.2.2.2.2.2.2.2.2.2) H → va_D (fun q : Nat => s.heap.size ≤ q) (wL cI cJ b1 b0 bw bq bf g0 gr gl gw gs bo r.1 r.2.1 r.2.2.1 r.2.2.2.1 r.2.2.2.2.1 r.2.2.2.2.2.1 r.2.2.2.2.2.2.1 r.2.2.2.2.2.2.2.1 r.2.2.2.2.2.2.2.2.1 r.2.2.2.2.2.2.2.2.2.1 r.2.2.2.2.2.2.2.2.2.2.1 r.2.2.2.2.2.2.2.2.2.2.2.1 r.2.2.2.2.2.2.2.2.2.2.2.2.1 r.2.2.2.2.2.2.2.2.2.2.2.2.2.1 r.2.2.2.2.2.2.2.2.2.2.2.2.2.2.1 r.2.2.2.2.2.2.2.2.2.2.2.2.2.2.2.1 r.2.2.2.2.2.2.2.2.2.2.2.2.2.2.2.2.1 r.2.2.2.2.2.2.2.2.2.2.2.2.2.2.2.2.2.1 r.2.2.2.2.2.2.2.2.2.2.2.2.2.2.2.2.2.2) → va_S (fun q : Nat => s.heap.size ≤ q) s.heap H locs → lv_has ls 8 [(0, .ref b), (1, .ref b1), (2, .ref g0), (3, .ref bo), (4, .int (nI i))] → W p l e room_1 s m #[Value.ref b] below meth c H locs (11 + (kk + 1)) (8761 + 6 * (kk + 1)) (lw_Z below #[Value.ref b] s) (F0 m 1465 ls [])) :
    ∀ (H : Heap) (locs : List Loc) (ls : Array Slot), va_P (dC, dI) vwCl (wL cI cJ b1 b0 bw bq bf g0 gr gl gw gs bo w en pl cu li ld fb th rw mn at_ ml md_l wd md sm fr no ou) H → va_D (fun q : Nat => s.heap.size ≤ q) (wL cI cJ b1 b0 bw bq bf g0 gr gl gw gs bo w en pl cu li ld fb th rw mn at_ ml md_l wd md sm fr no ou) → va_S (fun q : Nat => s.heap.size ≤ q) s.heap H locs → lv_has ls 8 [(0, .ref b), (1, .ref b1), (2, .ref g0), (3, .ref bo), (4, .int (nI i))] → W p l e room_1 s m #[Value.ref b] below meth c H locs (11 + kk) (8761 + 6 * kk) (lw_Z below #[Value.ref b] s) (F0 m 770 ls []) := by
  obtain ⟨hx, hb, hr, hml, hown, hts, hX, hbl, hlocks⟩ := id C0
  have hA : ∀ q : Nat, s.heap.size ≤ q → (fun q : Nat => s.heap.size ≤ q) q := fun _ h => h
  have hbA : ¬ (fun q : Nat => s.heap.size ≤ q) b := Nat.not_le.mpr hbl
  intro H locs ls hP hD hS hl
  generalize hAe : (fun q : Nat => s.heap.size ≤ q) = A at hA hbA hXs hD hS hk ⊢
  clear hAe
  unfold jC_11 at hj
  refine W.widen (k := 11 + (kk + 1)) (n := 8761 + 6 * (kk + 1)) (by omega) (by omega) ?_
  refine lv_aload_n hx hb dL_law_770 rfl (lv_at hl 1 rfl) ?_
  obtain ⟨⟨v1, v2⟩, hc, hj⟩ := ja_bd hj
  try dsimp only at hj
  have hPc := hP.sub (ws' := (wC cJ b1 b0 bw bq bf w en pl cu li ld fb)) [0, 1, 2, 3, 4] rfl
  have hDc := hD.sub (ws' := (wC cJ b1 b0 bw bq bf w en pl cu li ld fb)) [0, 1, 2, 3, 4] (by decide) rfl
  have hFc := va_free (wc := (wC cJ b1 b0 bw bq bf w en pl cu li ld fb)) hD hS hA [0, 1, 2, 3, 4] rfl
  refine va_calli (va_runV (As := []) (rest := []) ⟨hx, hb, hml, hown, hts⟩ (c_X1_clear l dC dI cI cJ b1 b0 bw bq bf H.size w en pl cu li ld fb _ hc) (cwV 0 hts gL_law_X1_clear rfl rfl rfl (by decide +kernel) ⟨Nat.le_of_ble_eq_true rfl, Nat.le_of_ble_eq_true rfl⟩) ⟨fun a U g mk q => ⟨q.1, jPr.blind q.2.1, jNs.blind q.2.2⟩, va_recv hK hPc (ci := 1) (q0 := 0) rfl rfl, fun U hU hW => ⟨rfl, jPr.mk hU hW hPc hK hDc, jNs.warm hW hN⟩⟩ rfl rfl hl.1 rfl (lv_room (Nat.le_of_ble_eq_true rfl)) dL_law_771 ⟨by show _ ≤ 1043; omega, by show _ ≤ 17001; omega⟩) hS (fun q _ h => hFc q h) hFc (fun rr u t H1 locs ht hvm hw9 hB hz1 hk1 hS => ?_)
  have hw8 : v1 = rr := hw9.symm
  subst hw8
  obtain ⟨hP1, hK1, hD1⟩ := hB
  rw [ht] at hP1
  obtain ⟨hP, hD⟩ := va_join (wr := ([(g0, .inr (2, [.int th, .ref gr, .int mn, .int at_, .ref gl, .int md_l, .ref gw, .int md, .ref gs, .int fr, .int no])), (gr, .inl (cI, 4096, .inl rw)), (gl, .inl (cJ, 100, .inr (.inl ml))), (gw, .inl (cI, 4200, .inl wd)), (gs, .inl (cJ, 92, .inr (.inl sm))), (bo, .inl (cJ, 1, .inr (.inl ou)))] : va_W)) (w1 := (wC cJ b1 b0 bw bq bf w en pl cu li v2 fb)) hP hD [0, 1, 2, 3, 4] [5, 6, 7, 8, 9, 10] rfl rfl (by decide) (by decide) hk1 hFc hP1 hD1
  replace hP := hP.sub (ws' := (wL cI cJ b1 b0 bw bq bf g0 gr gl gw gs bo w en pl cu li v2 fb th rw mn at_ ml md_l wd md sm fr no ou)) [6, 7, 8, 9, 10, 0, 1, 2, 3, 4, 5] rfl
  replace hD := hD.sub (ws' := (wL cI cJ b1 b0 bw bq bf g0 gr gl gw gs bo w en pl cu li v2 fb th rw mn at_ ml md_l wd md sm fr no ou)) [6, 7, 8, 9, 10, 0, 1, 2, 3, 4, 5] (by decide) rfl
  clear hk1 hP1 hK1 hD1 hvm hz1 hPc hDc hFc
  generalize H1 = H at hP hS ⊢
  refine W.widen (k := 11 + (kk + 1)) (n := 8761 + 6 * (kk + 1)) (by omega) (by omega) ?_
  have hP : va_P (dC, dI) vwCl (wL cI cJ b1 b0 bw bq bf g0 gr gl gw gs bo w en pl cu li v2 fb th rw mn at_ ml md_l wd md sm fr no ou) H := hP
  have hD : va_D A (wL cI cJ b1 b0 bw bq bf g0 gr gl gw gs bo w en pl cu li v2 fb th rw mn at_ ml md_l wd md sm fr no ou) := hD
  refine lv_aload_n hx hb dL_law_774 rfl (lv_at hl 2 rfl) ?_
  obtain ⟨⟨v3, v4, v5⟩, hc, hj⟩ := ja_bd hj
  try dsimp only at hj
  have hPc := hP.sub (ws' := (wM cI cJ g0 gr gl gw gs th rw mn at_ ml md_l wd md sm fr no)) [5, 6, 7, 8, 9] rfl
  have hDc := hD.sub (ws' := (wM cI cJ g0 gr gl gw gs th rw mn at_ ml md_l wd md sm fr no)) [5, 6, 7, 8, 9] (by decide) rfl
  have hFc := va_free (wc := (wM cI cJ g0 gr gl gw gs th rw mn at_ ml md_l wd md sm fr no)) hD hS hA [5, 6, 7, 8, 9] rfl
  refine va_calli (va_runV (As := []) (rest := [.int v1]) ⟨hx, hb, hml, hown, hts⟩ (c_X2_clear l dC dI cI cJ g0 gr gl gw gs H.size th rw mn at_ ml md_l wd md sm fr no _ hc) (cwV 0 hts gL_law_X2_clear rfl rfl rfl (by decide +kernel) ⟨Nat.le_of_ble_eq_true rfl, Nat.le_of_ble_eq_true rfl⟩) ⟨fun a U g mk q => ⟨q.1, jPr.blind q.2⟩, va_recv hK hPc (ci := 2) (q0 := 0) rfl rfl, fun U hU hW => ⟨rfl, jPr.mk hU hW hPc hK hDc⟩⟩ rfl rfl hl.1 rfl (lv_room (Nat.le_of_ble_eq_true rfl)) dL_law_775 ⟨by show _ ≤ 1043; omega, by show _ ≤ 17001; omega⟩) hS (fun q _ h => hFc q h) hFc (fun rr u t H1 locs ht hvm hw9 hB hz1 hk1 hS => ?_)
  have hw8 : v3 = rr := hw9.symm
  subst hw8
  obtain ⟨hP1, hK1, hD1⟩ := hB
  rw [ht] at hP1
  obtain ⟨hP, hD⟩ := va_join (wr := ([(b1, .inr (1, [.ref b0, .ref bq, .ref bf, .int v2])), (b0, .inr (0, [.ref bw, .int en, .int pl, .int cu])), (bw, .inl (cJ, 64, .inr (.inl w))), (bq, .inl (cJ, 100, .inr (.inl li))), (bf, .inl (cJ, 89, .inr (.inl fb))), (bo, .inl (cJ, 1, .inr (.inl ou)))] : va_W)) (w1 := (wM cI cJ g0 gr gl gw gs v4 rw mn at_ ml v5 wd md sm fr no)) hP hD [5, 6, 7, 8, 9] [0, 1, 2, 3, 4, 10] rfl rfl (by decide) (by decide) hk1 hFc hP1 hD1
  replace hP := hP.sub (ws' := (wL cI cJ b1 b0 bw bq bf g0 gr gl gw gs bo w en pl cu li v2 fb v4 rw mn at_ ml v5 wd md sm fr no ou)) [0, 1, 2, 3, 4, 6, 7, 8, 9, 10, 5] rfl
  replace hD := hD.sub (ws' := (wL cI cJ b1 b0 bw bq bf g0 gr gl gw gs bo w en pl cu li v2 fb v4 rw mn at_ ml v5 wd md sm fr no ou)) [0, 1, 2, 3, 4, 6, 7, 8, 9, 10, 5] (by decide) rfl
  clear hk1 hP1 hK1 hD1 hvm hz1 hPc hDc hFc
  generalize H1 = H at hP hS ⊢
  refine W.widen (k := 11 + (kk + 1)) (n := 8761 + 6 * (kk + 1)) (by omega) (by omega) ?_
  have hP : va_P (dC, dI) vwCl (wL cI cJ b1 b0 bw bq bf g0 gr gl gw gs bo w en pl cu li v2 fb v4 rw mn at_ ml v5 wd md sm fr no ou) H := hP
  have hD : va_D A (wL cI cJ b1 b0 bw bq bf g0 gr gl gw gs bo w en pl cu li v2 fb v4 rw mn at_ ml v5 wd md sm fr no ou) := hD
  refine lv_icmp_eq (tgt := 1465) hx hb dL_law_778 (by decide) (fun c6 => ?_) (fun c6 => ?_)
  · replace hj := ja_pos c6 hj
    have hr9 : (w, en, pl, cu, li, v2, fb, v4, rw, mn, at_, ml, v5, wd, md, sm, fr, no, ou) = r := Option.some.inj hj
    subst hr9
    exact hk H locs ls hP hD hS (lv_sub hl [0, 1, 2, 3, 4] rfl)
  · replace hj := ja_neg c6 hj
    refine lv_iconst (v := (0 : Int32)) hx hb dL_law_781 (by decide) ?_
    cases hj
def jC_12 (w : Nat → Int64) (en : Int32) (pl : Int32) (cu : Int32) (li : Nat → Int64) (ld : Int32) (fb : Nat → Int64) (th : Int32) (rw : Nat → Int32) (mn : Int32) (at_ : Int32) (ml : Nat → Int64) (md_l : Int32) (wd : Nat → Int32) (md : Int32) (sm : Nat → Int64) (fr : Int32) (no : Int32) (ou : Nat → Int64) (v_1 v_2 v_3 v_4 : Int32) : Option (jSt9) :=
  (j_L_total li ld fb ou v_1 v_2).bind fun (v1, v2) => ((j_X2_total th ml md_l sm v_1 v_2).bind fun (v3, v4) => ((j_X2_thrown v4).bind fun v5 => (if v5 = v1 then (if v1 = (0 : Int32) then (if (v2 (0 : Int32).toNatClampNeg) = v3 then (some (w, en, pl, cu, li, ld, fb, v4, rw, mn, at_, ml, md_l, wd, md, sm, fr, no, v2)) else (none)) else (some (w, en, pl, cu, li, ld, fb, v4, rw, mn, at_, ml, md_l, wd, md, sm, fr, no, v2))) else (none))))
set_option maxHeartbeats 4000000 in
set_option maxRecDepth 100000 in
theorem sl_12 {p : Program} {l : Launch} {e : Env} {s : State} {m : MethodId} {below : List Frame} {meth : Method} {c : Code} {dC : Nat → ClassId} {dI : Nat → Nat → Nat} {cI cJ : ClassId} {b L : Nat} {xs : Nat → Int32} (hlt : l.stackTraces = false) (C0 : sl_Cx p s m meth c b L xs) (hK : va_K (dC, dI) vwCl (jTy cI cJ) s) (hN : jNs s) (hXs : jXs (fun q : Nat => s.heap.size ≤ q) s) (hL : L ≤ 2560) (b1 : Nat) (b0 : Nat) (bw : Nat) (bq : Nat) (bf : Nat) (g0 : Nat) (gr : Nat) (gl : Nat) (gw : Nat) (gs : Nat) (bo : Nat) (w : Nat → Int64) (en : Int32) (pl : Int32) (cu : Int32) (li : Nat → Int64) (ld : Int32) (fb : Nat → Int64) (th : Int32) (rw : Nat → Int32) (mn : Int32) (at_ : Int32) (ml : Nat → Int64) (md_l : Int32) (wd : Nat → Int32) (md : Int32) (sm : Nat → Int64) (fr : Int32) (no : Int32) (ou : Nat → Int64) (i kk : Nat) (hi : i + 5 ≤ L) (hkk : kk < 512) (r : jSt9) (hj : jC_12 w en pl cu li ld fb th rw mn at_ ml md_l wd md sm fr no ou (xs (i + 1)) (xs (i + 2)) (xs (i + 3)) (xs (i + 4)) = some r)
    (hk : ∀ (H : Heap) (locs : List Loc) (ls : Array Slot), va_P (dC, dI) vwCl (wL cI cJ b1 b0 bw bq bf g0 gr gl gw gs bo r.1 r.2.1 r.2.2.1 r.2.2.2.1 r.2.2.2.2.1 r.2.2.2.2.2.1 r.2.2.2.2.2.2.1 r.2.2.2.2.2.2.2.1 r.2.2.2.2.2.2.2.2.1 r.2.2.2.2.2.2.2.2.2.1 r.2.2.2.2.2.2.2.2.2.2.1 r.2.2.2.2.2.2.2.2.2.2.2.1 r.2.2.2.2.2.2.2.2.2.2.2.2.1 r.2.2.2.2.2.2.2.2.2.2.2.2.2.1 r.2.2.2.2.2.2.2.2.2.2.2.2.2.2.1 r.2.2.2.2.2.2.2.2.2.2.2.2.2.2.2.1 r.2.2.2.2.2.2.2.2.2.2.2.2.2.2.2.2.1 r.2.2.2.2.2.2.2.2.2.2.2.2.2.2.2.2.2.1 r.2.2.2.2.2.2.2.2.2.2.2.2.2.2.2.2.2.2) H → va_D (fun q : Nat => s.heap.size ≤ q) (wL cI cJ b1 b0 bw bq bf g0 gr gl gw gs bo r.1 r.2.1 r.2.2.1 r.2.2.2.1 r.2.2.2.2.1 r.2.2.2.2.2.1 r.2.2.2.2.2.2.1 r.2.2.2.2.2.2.2.1 r.2.2.2.2.2.2.2.2.1 r.2.2.2.2.2.2.2.2.2.1 r.2.2.2.2.2.2.2.2.2.2.1 r.2.2.2.2.2.2.2.2.2.2.2.1 r.2.2.2.2.2.2.2.2.2.2.2.2.1 r.2.2.2.2.2.2.2.2.2.2.2.2.2.1 r.2.2.2.2.2.2.2.2.2.2.2.2.2.2.1 r.2.2.2.2.2.2.2.2.2.2.2.2.2.2.2.1 r.2.2.2.2.2.2.2.2.2.2.2.2.2.2.2.2.1 r.2.2.2.2.2.2.2.2.2.2.2.2.2.2.2.2.2.1 r.2.2.2.2.2.2.2.2.2.2.2.2.2.2.2.2.2.2) → va_S (fun q : Nat => s.heap.size ≤ q) s.heap H locs → lv_has ls 8 [(0, .ref b), (1, .ref b1), (2, .ref g0), (3, .ref bo), (4, .int (nI i))] → W p l e room_1 s m #[Value.ref b] below meth c H locs (11 + (kk + 1)) (8761 + 6 * (kk + 1)) (lw_Z below #[Value.ref b] s) (F0 m 1465 ls [])) :
    ∀ (H : Heap) (locs : List Loc) (ls : Array Slot), va_P (dC, dI) vwCl (wL cI cJ b1 b0 bw bq bf g0 gr gl gw gs bo w en pl cu li ld fb th rw mn at_ ml md_l wd md sm fr no ou) H → va_D (fun q : Nat => s.heap.size ≤ q) (wL cI cJ b1 b0 bw bq bf g0 gr gl gw gs bo w en pl cu li ld fb th rw mn at_ ml md_l wd md sm fr no ou) → va_S (fun q : Nat => s.heap.size ≤ q) s.heap H locs → lv_has ls 8 [(0, .ref b), (1, .ref b1), (2, .ref g0), (3, .ref bo), (4, .int (nI i))] → W p l e room_1 s m #[Value.ref b] below meth c H locs (11 + kk) (8761 + 6 * kk) (lw_Z below #[Value.ref b] s) (F0 m 783 ls []) := by
  obtain ⟨hx, hb, hr, hml, hown, hts, hX, hbl, hlocks⟩ := id C0
  have hA : ∀ q : Nat, s.heap.size ≤ q → (fun q : Nat => s.heap.size ≤ q) q := fun _ h => h
  have hbA : ¬ (fun q : Nat => s.heap.size ≤ q) b := Nat.not_le.mpr hbl
  intro H locs ls hP hD hS hl
  generalize hAe : (fun q : Nat => s.heap.size ≤ q) = A at hA hbA hXs hD hS hk ⊢
  clear hAe
  unfold jC_12 at hj
  refine lv_aload_n hx hb dL_law_783 rfl (lv_at hl 1 rfl) ?_
  refine lv_aload_n hx hb dL_law_784 rfl (lv_at hl 0 rfl) ?_
  refine lv_iload hx hb dL_law_785 (lv_at hl 4 rfl) ?_
  refine lv_iconst (v := (1 : Int32)) hx hb dL_law_787 (by decide) ?_
  refine lv_iadd hx hb dL_law_788 ?_
  refine sl_ld hx hb hX hbl hbA hS (j := i + 1) (by omega) hL (nI_add i 1) dL_law_789 ?_
  refine lv_aload_n hx hb dL_law_790 rfl (lv_at hl 0 rfl) ?_
  refine lv_iload hx hb dL_law_791 (lv_at hl 4 rfl) ?_
  refine lv_iconst (v := (2 : Int32)) hx hb dL_law_793 (by decide) ?_
  refine lv_iadd hx hb dL_law_794 ?_
  refine sl_ld hx hb hX hbl hbA hS (j := i + 2) (by omega) hL (nI_add i 2) dL_law_795 ?_
  refine lv_aload_n hx hb dL_law_796 rfl (lv_at hl 3 rfl) ?_
  obtain ⟨⟨v1, v2⟩, hc, hj⟩ := ja_bd hj
  try dsimp only at hj
  have hPc := hP.sub (ws' := (wH cJ b1 b0 bw bq bf bo w en pl cu li ld fb ou)) [0, 1, 2, 3, 4, 10] rfl
  have hDc := hD.sub (ws' := (wH cJ b1 b0 bw bq bf bo w en pl cu li ld fb ou)) [0, 1, 2, 3, 4, 10] (by decide) rfl
  have hFc := va_free (wc := (wH cJ b1 b0 bw bq bf bo w en pl cu li ld fb ou)) hD hS hA [0, 1, 2, 3, 4, 10] rfl
  refine va_calli (vx_runSW (As := [.ref b1, .int (xs (i + 1)), .int (xs (i + 2)), .ref bo]) (rest := []) ⟨hx, hb, hml, hown, hts⟩ (c_L_total l hlt dC dI cI cJ b1 b0 bw bq bf bo H.size w en pl cu li ld fb ou (xs (i + 1)) (xs (i + 2)) _ hc) (vx_cwSW 4 hts gL_law_L_total rfl rfl rfl (by decide +kernel) ⟨Nat.le_of_ble_eq_true rfl, Nat.le_of_ble_eq_true rfl⟩) ⟨fun a U g mk q => ⟨q.1, jPr.blind q.2.1, jNs.blind q.2.2.1, jXs.blind q.2.2.2⟩, fun U hU hW => ⟨rfl, jPr.mk hU hW hPc hK hDc, jNs.warm hW hN, jXs.down hU hW hS hFc hXs⟩⟩ rfl rfl hl.1 rfl (lv_room (Nat.le_of_ble_eq_true rfl)) dL_law_797 ⟨by show _ ≤ 1043; omega, by show _ ≤ 17001; omega⟩) hS (fun q _ h => hFc q h) hFc (fun rr u t H1 locs ht hvm hw9 hB hz1 hk1 hS => ?_)
  have hw8 : v1 = rr := hw9.symm
  subst hw8
  obtain ⟨hP1, hK1, hD1⟩ := hB
  rw [ht] at hP1
  obtain ⟨hP, hD⟩ := va_join (wr := ([(g0, .inr (2, [.int th, .ref gr, .int mn, .int at_, .ref gl, .int md_l, .ref gw, .int md, .ref gs, .int fr, .int no])), (gr, .inl (cI, 4096, .inl rw)), (gl, .inl (cJ, 100, .inr (.inl ml))), (gw, .inl (cI, 4200, .inl wd)), (gs, .inl (cJ, 92, .inr (.inl sm)))] : va_W)) (w1 := (wH cJ b1 b0 bw bq bf bo w en pl cu li ld fb v2)) hP hD [0, 1, 2, 3, 4, 10] [5, 6, 7, 8, 9] rfl rfl (by decide) (by decide) hk1 hFc hP1 hD1
  replace hP := hP.sub (ws' := (wL cI cJ b1 b0 bw bq bf g0 gr gl gw gs bo w en pl cu li ld fb th rw mn at_ ml md_l wd md sm fr no v2)) [5, 6, 7, 8, 9, 0, 1, 2, 3, 4, 10] rfl
  replace hD := hD.sub (ws' := (wL cI cJ b1 b0 bw bq bf g0 gr gl gw gs bo w en pl cu li ld fb th rw mn at_ ml md_l wd md sm fr no v2)) [5, 6, 7, 8, 9, 0, 1, 2, 3, 4, 10] (by decide) rfl
  clear hk1 hP1 hK1 hD1 hvm hz1 hPc hDc hFc
  generalize H1 = H at hP hS ⊢
  refine W.widen (k := 11 + (kk + 1)) (n := 8761 + 6 * (kk + 1)) (by omega) (by omega) ?_
  have hP : va_P (dC, dI) vwCl (wL cI cJ b1 b0 bw bq bf g0 gr gl gw gs bo w en pl cu li ld fb th rw mn at_ ml md_l wd md sm fr no v2) H := hP
  have hD : va_D A (wL cI cJ b1 b0 bw bq bf g0 gr gl gw gs bo w en pl cu li ld fb th rw mn at_ ml md_l wd md sm fr no v2) := hD
  refine lv_istore (lv' := [(5, .int v1), (0, .ref b), (1, .ref b1), (2, .ref g0), (3, .ref bo), (4, .int (nI i))]) hx hb dL_law_800 hl (by decide) rfl (fun ls hl => ?_)
  refine lv_aload_n hx hb dL_law_802 rfl (lv_at hl 3 rfl) ?_
  refine lv_aload_n hx hb dL_law_803 rfl (lv_at hl 1 rfl) ?_
  refine lv_iload hx hb dL_law_804 (lv_at hl 5 rfl) ?_
  refine lv_iconst (v := (1 : Int32)) hx hb dL_law_806 (by decide) ?_
  refine lv_iadd hx hb dL_law_807 ?_
  refine sl_ld hx hb hX hbl hbA hS (j := i + 1) (by omega) hL (nI_add i 1) dL_law_808 ?_
  refine lv_aload_n hx hb dL_law_809 rfl (lv_at hl 1 rfl) ?_
  refine lv_iload hx hb dL_law_810 (lv_at hl 5 rfl) ?_
  refine lv_iconst (v := (2 : Int32)) hx hb dL_law_812 (by decide) ?_
  refine lv_iadd hx hb dL_law_813 ?_
  refine sl_ld hx hb hX hbl hbA hS (j := i + 2) (by omega) hL (nI_add i 2) dL_law_814 ?_
  obtain ⟨⟨v3, v4⟩, hc, hj⟩ := ja_bd hj
  try dsimp only at hj
  have hPc := hP.sub (ws' := (wM cI cJ g0 gr gl gw gs th rw mn at_ ml md_l wd md sm fr no)) [5, 6, 7, 8, 9] rfl
  have hDc := hD.sub (ws' := (wM cI cJ g0 gr gl gw gs th rw mn at_ ml md_l wd md sm fr no)) [5, 6, 7, 8, 9] (by decide) rfl
  have hFc := va_free (wc := (wM cI cJ g0 gr gl gw gs th rw mn at_ ml md_l wd md sm fr no)) hD hS hA [5, 6, 7, 8, 9] rfl
  refine va_calll (va_runV (As := [.int (xs (i + 1)), .int (xs (i + 2))]) (rest := []) ⟨hx, hb, hml, hown, hts⟩ (c_X2_total l dC dI cI cJ g0 gr gl gw gs H.size th rw mn at_ ml md_l wd md sm fr no (xs (i + 1)) (xs (i + 2)) _ hc) (cwV 2 hts gL_law_X2_total rfl rfl rfl (by decide +kernel) ⟨Nat.le_of_ble_eq_true rfl, Nat.le_of_ble_eq_true rfl⟩) ⟨fun a U g mk q => ⟨q.1, jPr.blind q.2⟩, va_recv hK hPc (ci := 2) (q0 := 0) rfl rfl, fun U hU hW => ⟨rfl, jPr.mk hU hW hPc hK hDc⟩⟩ rfl rfl hl.1 rfl (lv_room (Nat.le_of_ble_eq_true rfl)) dL_law_815 ⟨by show _ ≤ 1043; omega, by show _ ≤ 17001; omega⟩) hS (fun q _ h => hFc q h) hFc (fun rr u t H1 locs ht hvm hw9 hB hz1 hk1 hS => ?_)
  have hw8 : v3 = rr := hw9.symm
  subst hw8
  obtain ⟨hP1, hK1, hD1⟩ := hB
  rw [ht] at hP1
  obtain ⟨hP, hD⟩ := va_join (wr := ([(b1, .inr (1, [.ref b0, .ref bq, .ref bf, .int ld])), (b0, .inr (0, [.ref bw, .int en, .int pl, .int cu])), (bw, .inl (cJ, 64, .inr (.inl w))), (bq, .inl (cJ, 100, .inr (.inl li))), (bf, .inl (cJ, 89, .inr (.inl fb))), (bo, .inl (cJ, 1, .inr (.inl v2)))] : va_W)) (w1 := (wM cI cJ g0 gr gl gw gs v4 rw mn at_ ml md_l wd md sm fr no)) hP hD [5, 6, 7, 8, 9] [0, 1, 2, 3, 4, 10] rfl rfl (by decide) (by decide) hk1 hFc hP1 hD1
  replace hP := hP.sub (ws' := (wL cI cJ b1 b0 bw bq bf g0 gr gl gw gs bo w en pl cu li ld fb v4 rw mn at_ ml md_l wd md sm fr no v2)) [0, 1, 2, 3, 4, 6, 7, 8, 9, 10, 5] rfl
  replace hD := hD.sub (ws' := (wL cI cJ b1 b0 bw bq bf g0 gr gl gw gs bo w en pl cu li ld fb v4 rw mn at_ ml md_l wd md sm fr no v2)) [0, 1, 2, 3, 4, 6, 7, 8, 9, 10, 5] (by decide) rfl
  clear hk1 hP1 hK1 hD1 hvm hz1 hPc hDc hFc
  generalize H1 = H at hP hS ⊢
  refine W.widen (k := 11 + (kk + 1)) (n := 8761 + 6 * (kk + 1)) (by omega) (by omega) ?_
  have hP : va_P (dC, dI) vwCl (wL cI cJ b1 b0 bw bq bf g0 gr gl gw gs bo w en pl cu li ld fb v4 rw mn at_ ml md_l wd md sm fr no v2) H := hP
  have hD : va_D A (wL cI cJ b1 b0 bw bq bf g0 gr gl gw gs bo w en pl cu li ld fb v4 rw mn at_ ml md_l wd md sm fr no v2) := hD
  refine lv_lstore (lv' := [(6, .long v3), (5, .int v1), (0, .ref b), (1, .ref b1), (2, .ref g0), (3, .ref bo), (4, .int (nI i))]) hx hb dL_law_818 hl (by decide) rfl (fun ls hl => ?_)
  refine lv_aload_n hx hb dL_law_820 rfl (lv_at hl 4 rfl) ?_
  obtain ⟨v5, hc, hj⟩ := ja_bd hj
  try dsimp only at hj
  have hPc := hP.sub (ws' := (wM cI cJ g0 gr gl gw gs v4 rw mn at_ ml md_l wd md sm fr no)) [5, 6, 7, 8, 9] rfl
  have hDc := hD.sub (ws' := (wM cI cJ g0 gr gl gw gs v4 rw mn at_ ml md_l wd md sm fr no)) [5, 6, 7, 8, 9] (by decide) rfl
  have hFc := va_free (wc := (wM cI cJ g0 gr gl gw gs v4 rw mn at_ ml md_l wd md sm fr no)) hD hS hA [5, 6, 7, 8, 9] rfl
  refine va_calli (va_runV (As := []) (rest := []) ⟨hx, hb, hml, hown, hts⟩ (c_X2_thrown l dC dI cI cJ g0 gr gl gw gs H.size v4 rw mn at_ ml md_l wd md sm fr no _ hc) (cwV 0 hts gL_law_X2_thrown rfl rfl rfl (by decide +kernel) ⟨Nat.le_of_ble_eq_true rfl, Nat.le_of_ble_eq_true rfl⟩) ⟨fun a U g mk q => ⟨q.1, jPr.blind q.2⟩, va_recv hK hPc (ci := 2) (q0 := 0) rfl rfl, fun U hU hW => ⟨rfl, jPr.mk hU hW hPc hK hDc⟩⟩ rfl rfl hl.1 rfl (lv_room (Nat.le_of_ble_eq_true rfl)) dL_law_821 ⟨by show _ ≤ 1043; omega, by show _ ≤ 17001; omega⟩) hS (fun q _ h => hFc q h) hFc (fun rr u t H1 locs ht hvm hw9 hB hz1 hk1 hS => ?_)
  have hw8 : v5 = rr := hw9.symm
  subst hw8
  obtain ⟨hP1, hK1, hD1⟩ := hB
  rw [ht] at hP1
  obtain ⟨hP, hD⟩ := va_join (wr := ([(b1, .inr (1, [.ref b0, .ref bq, .ref bf, .int ld])), (b0, .inr (0, [.ref bw, .int en, .int pl, .int cu])), (bw, .inl (cJ, 64, .inr (.inl w))), (bq, .inl (cJ, 100, .inr (.inl li))), (bf, .inl (cJ, 89, .inr (.inl fb))), (bo, .inl (cJ, 1, .inr (.inl v2)))] : va_W)) (w1 := (wM cI cJ g0 gr gl gw gs v4 rw mn at_ ml md_l wd md sm fr no)) hP hD [5, 6, 7, 8, 9] [0, 1, 2, 3, 4, 10] rfl rfl (by decide) (by decide) hk1 hFc hP1 hD1
  replace hP := hP.sub (ws' := (wL cI cJ b1 b0 bw bq bf g0 gr gl gw gs bo w en pl cu li ld fb v4 rw mn at_ ml md_l wd md sm fr no v2)) [0, 1, 2, 3, 4, 6, 7, 8, 9, 10, 5] rfl
  replace hD := hD.sub (ws' := (wL cI cJ b1 b0 bw bq bf g0 gr gl gw gs bo w en pl cu li ld fb v4 rw mn at_ ml md_l wd md sm fr no v2)) [0, 1, 2, 3, 4, 6, 7, 8, 9, 10, 5] (by decide) rfl
  clear hk1 hP1 hK1 hD1 hvm hz1 hPc hDc hFc
  generalize H1 = H at hP hS ⊢
  refine W.widen (k := 11 + (kk + 1)) (n := 8761 + 6 * (kk + 1)) (by omega) (by omega) ?_
  have hP : va_P (dC, dI) vwCl (wL cI cJ b1 b0 bw bq bf g0 gr gl gw gs bo w en pl cu li ld fb v4 rw mn at_ ml md_l wd md sm fr no v2) H := hP
  have hD : va_D A (wL cI cJ b1 b0 bw bq bf g0 gr gl gw gs bo w en pl cu li ld fb v4 rw mn at_ ml md_l wd md sm fr no v2) := hD
  refine lv_iload hx hb dL_law_824 (lv_at hl 1 rfl) ?_
  refine lv_icmp_eq (tgt := 831) hx hb dL_law_826 (by decide) (fun c6 => ?_) (fun c6 => ?_)
  · replace hj := ja_pos c6 hj
    refine lv_iload hx hb dL_law_831 (lv_at hl 1 rfl) ?_
    refine lv_if_ne (tgt := 847) hx hb dL_law_833 (by decide) (fun c7 => ?_) (fun c7 => ?_)
    · replace hj := ja_neg c7 hj
      refine lv_goto (tgt := 1465) hx hb dL_law_847 (by decide) ?_
      have hr9 : (w, en, pl, cu, li, ld, fb, v4, rw, mn, at_, ml, md_l, wd, md, sm, fr, no, v2) = r := Option.some.inj hj
      subst hr9
      exact hk H locs ls hP hD hS (lv_sub hl [2, 3, 4, 5, 6] rfl)
    · replace hj := ja_pos c7 hj
      refine lv_aload_n hx hb dL_law_836 rfl (lv_at hl 5 rfl) ?_
      refine lv_iconst (v := (0 : Int32)) hx hb dL_law_837 (by decide) ?_
      refine va_lald hx hb hK hP 10 1 rfl rfl (show vp_in (0 : Int32) 1 by unfold vp_in; decide) dL_law_838 ?_
      refine lv_lload hx hb dL_law_839 (lv_at hl 0 rfl) ?_
      refine W.lcmp hx hb dL_law_841 ?_
      refine lv_if_eq (tgt := 847) hx hb dL_law_842 (by decide) (fun c8 => ?_) (fun c8 => ?_)
      · replace hj := ja_pos ((lg_cmp_eq (v2 (0 : Int32).toNatClampNeg) v3).mp c8) hj
        refine lv_goto (tgt := 1465) hx hb dL_law_847 (by decide) ?_
        have hr9 : (w, en, pl, cu, li, ld, fb, v4, rw, mn, at_, ml, md_l, wd, md, sm, fr, no, v2) = r := Option.some.inj hj
        subst hr9
        exact hk H locs ls hP hD hS (lv_sub hl [2, 3, 4, 5, 6] rfl)
      · replace hj := ja_neg (fun h9 => c8 ((lg_cmp_eq (v2 (0 : Int32).toNatClampNeg) v3).mpr h9)) hj
        refine lv_iconst (v := (0 : Int32)) hx hb dL_law_845 (by decide) ?_
        cases hj
  · replace hj := ja_neg c6 hj
    refine lv_iconst (v := (0 : Int32)) hx hb dL_law_829 (by decide) ?_
    cases hj
def jC_13 (w : Nat → Int64) (en : Int32) (pl : Int32) (cu : Int32) (li : Nat → Int64) (ld : Int32) (fb : Nat → Int64) (th : Int32) (rw : Nat → Int32) (mn : Int32) (at_ : Int32) (ml : Nat → Int64) (md_l : Int32) (wd : Nat → Int32) (md : Int32) (sm : Nat → Int64) (fr : Int32) (no : Int32) (ou : Nat → Int64) (v_1 v_2 v_3 v_4 : Int32) : Option (jSt9) :=
  (j_L_best li ld fb ou v_1 v_2).bind fun (v1, v2) => ((j_X2_best th ml md_l sm v_1 v_2).bind fun (v3, v4) => ((j_X2_thrown v4).bind fun v5 => (if v5 = v1 then (if v1 = (0 : Int32) then (if (v2 (0 : Int32).toNatClampNeg) = v3.toInt64 then (some (w, en, pl, cu, li, ld, fb, v4, rw, mn, at_, ml, md_l, wd, md, sm, fr, no, v2)) else (none)) else (some (w, en, pl, cu, li, ld, fb, v4, rw, mn, at_, ml, md_l, wd, md, sm, fr, no, v2))) else (none))))
set_option maxHeartbeats 4000000 in
set_option maxRecDepth 100000 in
theorem sl_13 {p : Program} {l : Launch} {e : Env} {s : State} {m : MethodId} {below : List Frame} {meth : Method} {c : Code} {dC : Nat → ClassId} {dI : Nat → Nat → Nat} {cI cJ : ClassId} {b L : Nat} {xs : Nat → Int32} (hlt : l.stackTraces = false) (C0 : sl_Cx p s m meth c b L xs) (hK : va_K (dC, dI) vwCl (jTy cI cJ) s) (hN : jNs s) (hXs : jXs (fun q : Nat => s.heap.size ≤ q) s) (hL : L ≤ 2560) (b1 : Nat) (b0 : Nat) (bw : Nat) (bq : Nat) (bf : Nat) (g0 : Nat) (gr : Nat) (gl : Nat) (gw : Nat) (gs : Nat) (bo : Nat) (w : Nat → Int64) (en : Int32) (pl : Int32) (cu : Int32) (li : Nat → Int64) (ld : Int32) (fb : Nat → Int64) (th : Int32) (rw : Nat → Int32) (mn : Int32) (at_ : Int32) (ml : Nat → Int64) (md_l : Int32) (wd : Nat → Int32) (md : Int32) (sm : Nat → Int64) (fr : Int32) (no : Int32) (ou : Nat → Int64) (i kk : Nat) (hi : i + 5 ≤ L) (hkk : kk < 512) (r : jSt9) (hj : jC_13 w en pl cu li ld fb th rw mn at_ ml md_l wd md sm fr no ou (xs (i + 1)) (xs (i + 2)) (xs (i + 3)) (xs (i + 4)) = some r)
    (hk : ∀ (H : Heap) (locs : List Loc) (ls : Array Slot), va_P (dC, dI) vwCl (wL cI cJ b1 b0 bw bq bf g0 gr gl gw gs bo r.1 r.2.1 r.2.2.1 r.2.2.2.1 r.2.2.2.2.1 r.2.2.2.2.2.1 r.2.2.2.2.2.2.1 r.2.2.2.2.2.2.2.1 r.2.2.2.2.2.2.2.2.1 r.2.2.2.2.2.2.2.2.2.1 r.2.2.2.2.2.2.2.2.2.2.1 r.2.2.2.2.2.2.2.2.2.2.2.1 r.2.2.2.2.2.2.2.2.2.2.2.2.1 r.2.2.2.2.2.2.2.2.2.2.2.2.2.1 r.2.2.2.2.2.2.2.2.2.2.2.2.2.2.1 r.2.2.2.2.2.2.2.2.2.2.2.2.2.2.2.1 r.2.2.2.2.2.2.2.2.2.2.2.2.2.2.2.2.1 r.2.2.2.2.2.2.2.2.2.2.2.2.2.2.2.2.2.1 r.2.2.2.2.2.2.2.2.2.2.2.2.2.2.2.2.2.2) H → va_D (fun q : Nat => s.heap.size ≤ q) (wL cI cJ b1 b0 bw bq bf g0 gr gl gw gs bo r.1 r.2.1 r.2.2.1 r.2.2.2.1 r.2.2.2.2.1 r.2.2.2.2.2.1 r.2.2.2.2.2.2.1 r.2.2.2.2.2.2.2.1 r.2.2.2.2.2.2.2.2.1 r.2.2.2.2.2.2.2.2.2.1 r.2.2.2.2.2.2.2.2.2.2.1 r.2.2.2.2.2.2.2.2.2.2.2.1 r.2.2.2.2.2.2.2.2.2.2.2.2.1 r.2.2.2.2.2.2.2.2.2.2.2.2.2.1 r.2.2.2.2.2.2.2.2.2.2.2.2.2.2.1 r.2.2.2.2.2.2.2.2.2.2.2.2.2.2.2.1 r.2.2.2.2.2.2.2.2.2.2.2.2.2.2.2.2.1 r.2.2.2.2.2.2.2.2.2.2.2.2.2.2.2.2.2.1 r.2.2.2.2.2.2.2.2.2.2.2.2.2.2.2.2.2.2) → va_S (fun q : Nat => s.heap.size ≤ q) s.heap H locs → lv_has ls 8 [(0, .ref b), (1, .ref b1), (2, .ref g0), (3, .ref bo), (4, .int (nI i))] → W p l e room_1 s m #[Value.ref b] below meth c H locs (11 + (kk + 1)) (8761 + 6 * (kk + 1)) (lw_Z below #[Value.ref b] s) (F0 m 1465 ls [])) :
    ∀ (H : Heap) (locs : List Loc) (ls : Array Slot), va_P (dC, dI) vwCl (wL cI cJ b1 b0 bw bq bf g0 gr gl gw gs bo w en pl cu li ld fb th rw mn at_ ml md_l wd md sm fr no ou) H → va_D (fun q : Nat => s.heap.size ≤ q) (wL cI cJ b1 b0 bw bq bf g0 gr gl gw gs bo w en pl cu li ld fb th rw mn at_ ml md_l wd md sm fr no ou) → va_S (fun q : Nat => s.heap.size ≤ q) s.heap H locs → lv_has ls 8 [(0, .ref b), (1, .ref b1), (2, .ref g0), (3, .ref bo), (4, .int (nI i))] → W p l e room_1 s m #[Value.ref b] below meth c H locs (11 + kk) (8761 + 6 * kk) (lw_Z below #[Value.ref b] s) (F0 m 850 ls []) := by
  obtain ⟨hx, hb, hr, hml, hown, hts, hX, hbl, hlocks⟩ := id C0
  have hA : ∀ q : Nat, s.heap.size ≤ q → (fun q : Nat => s.heap.size ≤ q) q := fun _ h => h
  have hbA : ¬ (fun q : Nat => s.heap.size ≤ q) b := Nat.not_le.mpr hbl
  intro H locs ls hP hD hS hl
  generalize hAe : (fun q : Nat => s.heap.size ≤ q) = A at hA hbA hXs hD hS hk ⊢
  clear hAe
  unfold jC_13 at hj
  refine lv_aload_n hx hb dL_law_850 rfl (lv_at hl 1 rfl) ?_
  refine lv_aload_n hx hb dL_law_851 rfl (lv_at hl 0 rfl) ?_
  refine lv_iload hx hb dL_law_852 (lv_at hl 4 rfl) ?_
  refine lv_iconst (v := (1 : Int32)) hx hb dL_law_854 (by decide) ?_
  refine lv_iadd hx hb dL_law_855 ?_
  refine sl_ld hx hb hX hbl hbA hS (j := i + 1) (by omega) hL (nI_add i 1) dL_law_856 ?_
  refine lv_aload_n hx hb dL_law_857 rfl (lv_at hl 0 rfl) ?_
  refine lv_iload hx hb dL_law_858 (lv_at hl 4 rfl) ?_
  refine lv_iconst (v := (2 : Int32)) hx hb dL_law_860 (by decide) ?_
  refine lv_iadd hx hb dL_law_861 ?_
  refine sl_ld hx hb hX hbl hbA hS (j := i + 2) (by omega) hL (nI_add i 2) dL_law_862 ?_
  refine lv_aload_n hx hb dL_law_863 rfl (lv_at hl 3 rfl) ?_
  obtain ⟨⟨v1, v2⟩, hc, hj⟩ := ja_bd hj
  try dsimp only at hj
  have hPc := hP.sub (ws' := (wH cJ b1 b0 bw bq bf bo w en pl cu li ld fb ou)) [0, 1, 2, 3, 4, 10] rfl
  have hDc := hD.sub (ws' := (wH cJ b1 b0 bw bq bf bo w en pl cu li ld fb ou)) [0, 1, 2, 3, 4, 10] (by decide) rfl
  have hFc := va_free (wc := (wH cJ b1 b0 bw bq bf bo w en pl cu li ld fb ou)) hD hS hA [0, 1, 2, 3, 4, 10] rfl
  refine va_calli (vx_runSW (As := [.ref b1, .int (xs (i + 1)), .int (xs (i + 2)), .ref bo]) (rest := []) ⟨hx, hb, hml, hown, hts⟩ (c_L_best l hlt dC dI cI cJ b1 b0 bw bq bf bo H.size w en pl cu li ld fb ou (xs (i + 1)) (xs (i + 2)) _ hc) (vx_cwSW 4 hts gL_law_L_best rfl rfl rfl (by decide +kernel) ⟨Nat.le_of_ble_eq_true rfl, Nat.le_of_ble_eq_true rfl⟩) ⟨fun a U g mk q => ⟨q.1, jPr.blind q.2.1, jNs.blind q.2.2.1, jXs.blind q.2.2.2⟩, fun U hU hW => ⟨rfl, jPr.mk hU hW hPc hK hDc, jNs.warm hW hN, jXs.down hU hW hS hFc hXs⟩⟩ rfl rfl hl.1 rfl (lv_room (Nat.le_of_ble_eq_true rfl)) dL_law_864 ⟨by show _ ≤ 1043; omega, by show _ ≤ 17001; omega⟩) hS (fun q _ h => hFc q h) hFc (fun rr u t H1 locs ht hvm hw9 hB hz1 hk1 hS => ?_)
  have hw8 : v1 = rr := hw9.symm
  subst hw8
  obtain ⟨hP1, hK1, hD1⟩ := hB
  rw [ht] at hP1
  obtain ⟨hP, hD⟩ := va_join (wr := ([(g0, .inr (2, [.int th, .ref gr, .int mn, .int at_, .ref gl, .int md_l, .ref gw, .int md, .ref gs, .int fr, .int no])), (gr, .inl (cI, 4096, .inl rw)), (gl, .inl (cJ, 100, .inr (.inl ml))), (gw, .inl (cI, 4200, .inl wd)), (gs, .inl (cJ, 92, .inr (.inl sm)))] : va_W)) (w1 := (wH cJ b1 b0 bw bq bf bo w en pl cu li ld fb v2)) hP hD [0, 1, 2, 3, 4, 10] [5, 6, 7, 8, 9] rfl rfl (by decide) (by decide) hk1 hFc hP1 hD1
  replace hP := hP.sub (ws' := (wL cI cJ b1 b0 bw bq bf g0 gr gl gw gs bo w en pl cu li ld fb th rw mn at_ ml md_l wd md sm fr no v2)) [5, 6, 7, 8, 9, 0, 1, 2, 3, 4, 10] rfl
  replace hD := hD.sub (ws' := (wL cI cJ b1 b0 bw bq bf g0 gr gl gw gs bo w en pl cu li ld fb th rw mn at_ ml md_l wd md sm fr no v2)) [5, 6, 7, 8, 9, 0, 1, 2, 3, 4, 10] (by decide) rfl
  clear hk1 hP1 hK1 hD1 hvm hz1 hPc hDc hFc
  generalize H1 = H at hP hS ⊢
  refine W.widen (k := 11 + (kk + 1)) (n := 8761 + 6 * (kk + 1)) (by omega) (by omega) ?_
  have hP : va_P (dC, dI) vwCl (wL cI cJ b1 b0 bw bq bf g0 gr gl gw gs bo w en pl cu li ld fb th rw mn at_ ml md_l wd md sm fr no v2) H := hP
  have hD : va_D A (wL cI cJ b1 b0 bw bq bf g0 gr gl gw gs bo w en pl cu li ld fb th rw mn at_ ml md_l wd md sm fr no v2) := hD
  refine lv_istore (lv' := [(5, .int v1), (0, .ref b), (1, .ref b1), (2, .ref g0), (3, .ref bo), (4, .int (nI i))]) hx hb dL_law_867 hl (by decide) rfl (fun ls hl => ?_)
  refine lv_aload_n hx hb dL_law_869 rfl (lv_at hl 3 rfl) ?_
  refine lv_aload_n hx hb dL_law_870 rfl (lv_at hl 1 rfl) ?_
  refine lv_iload hx hb dL_law_871 (lv_at hl 5 rfl) ?_
  refine lv_iconst (v := (1 : Int32)) hx hb dL_law_873 (by decide) ?_
  refine lv_iadd hx hb dL_law_874 ?_
  refine sl_ld hx hb hX hbl hbA hS (j := i + 1) (by omega) hL (nI_add i 1) dL_law_875 ?_
  refine lv_aload_n hx hb dL_law_876 rfl (lv_at hl 1 rfl) ?_
  refine lv_iload hx hb dL_law_877 (lv_at hl 5 rfl) ?_
  refine lv_iconst (v := (2 : Int32)) hx hb dL_law_879 (by decide) ?_
  refine lv_iadd hx hb dL_law_880 ?_
  refine sl_ld hx hb hX hbl hbA hS (j := i + 2) (by omega) hL (nI_add i 2) dL_law_881 ?_
  obtain ⟨⟨v3, v4⟩, hc, hj⟩ := ja_bd hj
  try dsimp only at hj
  have hPc := hP.sub (ws' := (wM cI cJ g0 gr gl gw gs th rw mn at_ ml md_l wd md sm fr no)) [5, 6, 7, 8, 9] rfl
  have hDc := hD.sub (ws' := (wM cI cJ g0 gr gl gw gs th rw mn at_ ml md_l wd md sm fr no)) [5, 6, 7, 8, 9] (by decide) rfl
  have hFc := va_free (wc := (wM cI cJ g0 gr gl gw gs th rw mn at_ ml md_l wd md sm fr no)) hD hS hA [5, 6, 7, 8, 9] rfl
  refine va_calli (va_runV (As := [.int (xs (i + 1)), .int (xs (i + 2))]) (rest := []) ⟨hx, hb, hml, hown, hts⟩ (c_X2_best l dC dI cI cJ g0 gr gl gw gs H.size th rw mn at_ ml md_l wd md sm fr no (xs (i + 1)) (xs (i + 2)) _ hc) (cwV 2 hts gL_law_X2_best rfl rfl rfl (by decide +kernel) ⟨Nat.le_of_ble_eq_true rfl, Nat.le_of_ble_eq_true rfl⟩) ⟨fun a U g mk q => ⟨q.1, jPr.blind q.2⟩, va_recv hK hPc (ci := 2) (q0 := 0) rfl rfl, fun U hU hW => ⟨rfl, jPr.mk hU hW hPc hK hDc⟩⟩ rfl rfl hl.1 rfl (lv_room (Nat.le_of_ble_eq_true rfl)) dL_law_882 ⟨by show _ ≤ 1043; omega, by show _ ≤ 17001; omega⟩) hS (fun q _ h => hFc q h) hFc (fun rr u t H1 locs ht hvm hw9 hB hz1 hk1 hS => ?_)
  have hw8 : v3 = rr := hw9.symm
  subst hw8
  obtain ⟨hP1, hK1, hD1⟩ := hB
  rw [ht] at hP1
  obtain ⟨hP, hD⟩ := va_join (wr := ([(b1, .inr (1, [.ref b0, .ref bq, .ref bf, .int ld])), (b0, .inr (0, [.ref bw, .int en, .int pl, .int cu])), (bw, .inl (cJ, 64, .inr (.inl w))), (bq, .inl (cJ, 100, .inr (.inl li))), (bf, .inl (cJ, 89, .inr (.inl fb))), (bo, .inl (cJ, 1, .inr (.inl v2)))] : va_W)) (w1 := (wM cI cJ g0 gr gl gw gs v4 rw mn at_ ml md_l wd md sm fr no)) hP hD [5, 6, 7, 8, 9] [0, 1, 2, 3, 4, 10] rfl rfl (by decide) (by decide) hk1 hFc hP1 hD1
  replace hP := hP.sub (ws' := (wL cI cJ b1 b0 bw bq bf g0 gr gl gw gs bo w en pl cu li ld fb v4 rw mn at_ ml md_l wd md sm fr no v2)) [0, 1, 2, 3, 4, 6, 7, 8, 9, 10, 5] rfl
  replace hD := hD.sub (ws' := (wL cI cJ b1 b0 bw bq bf g0 gr gl gw gs bo w en pl cu li ld fb v4 rw mn at_ ml md_l wd md sm fr no v2)) [0, 1, 2, 3, 4, 6, 7, 8, 9, 10, 5] (by decide) rfl
  clear hk1 hP1 hK1 hD1 hvm hz1 hPc hDc hFc
  generalize H1 = H at hP hS ⊢
  refine W.widen (k := 11 + (kk + 1)) (n := 8761 + 6 * (kk + 1)) (by omega) (by omega) ?_
  have hP : va_P (dC, dI) vwCl (wL cI cJ b1 b0 bw bq bf g0 gr gl gw gs bo w en pl cu li ld fb v4 rw mn at_ ml md_l wd md sm fr no v2) H := hP
  have hD : va_D A (wL cI cJ b1 b0 bw bq bf g0 gr gl gw gs bo w en pl cu li ld fb v4 rw mn at_ ml md_l wd md sm fr no v2) := hD
  refine lv_istore (lv' := [(6, .int v3), (5, .int v1), (0, .ref b), (1, .ref b1), (2, .ref g0), (3, .ref bo), (4, .int (nI i))]) hx hb dL_law_885 hl (by decide) rfl (fun ls hl => ?_)
  refine lv_aload_n hx hb dL_law_887 rfl (lv_at hl 4 rfl) ?_
  obtain ⟨v5, hc, hj⟩ := ja_bd hj
  try dsimp only at hj
  have hPc := hP.sub (ws' := (wM cI cJ g0 gr gl gw gs v4 rw mn at_ ml md_l wd md sm fr no)) [5, 6, 7, 8, 9] rfl
  have hDc := hD.sub (ws' := (wM cI cJ g0 gr gl gw gs v4 rw mn at_ ml md_l wd md sm fr no)) [5, 6, 7, 8, 9] (by decide) rfl
  have hFc := va_free (wc := (wM cI cJ g0 gr gl gw gs v4 rw mn at_ ml md_l wd md sm fr no)) hD hS hA [5, 6, 7, 8, 9] rfl
  refine va_calli (va_runV (As := []) (rest := []) ⟨hx, hb, hml, hown, hts⟩ (c_X2_thrown l dC dI cI cJ g0 gr gl gw gs H.size v4 rw mn at_ ml md_l wd md sm fr no _ hc) (cwV 0 hts gL_law_X2_thrown rfl rfl rfl (by decide +kernel) ⟨Nat.le_of_ble_eq_true rfl, Nat.le_of_ble_eq_true rfl⟩) ⟨fun a U g mk q => ⟨q.1, jPr.blind q.2⟩, va_recv hK hPc (ci := 2) (q0 := 0) rfl rfl, fun U hU hW => ⟨rfl, jPr.mk hU hW hPc hK hDc⟩⟩ rfl rfl hl.1 rfl (lv_room (Nat.le_of_ble_eq_true rfl)) dL_law_888 ⟨by show _ ≤ 1043; omega, by show _ ≤ 17001; omega⟩) hS (fun q _ h => hFc q h) hFc (fun rr u t H1 locs ht hvm hw9 hB hz1 hk1 hS => ?_)
  have hw8 : v5 = rr := hw9.symm
  subst hw8
  obtain ⟨hP1, hK1, hD1⟩ := hB
  rw [ht] at hP1
  obtain ⟨hP, hD⟩ := va_join (wr := ([(b1, .inr (1, [.ref b0, .ref bq, .ref bf, .int ld])), (b0, .inr (0, [.ref bw, .int en, .int pl, .int cu])), (bw, .inl (cJ, 64, .inr (.inl w))), (bq, .inl (cJ, 100, .inr (.inl li))), (bf, .inl (cJ, 89, .inr (.inl fb))), (bo, .inl (cJ, 1, .inr (.inl v2)))] : va_W)) (w1 := (wM cI cJ g0 gr gl gw gs v4 rw mn at_ ml md_l wd md sm fr no)) hP hD [5, 6, 7, 8, 9] [0, 1, 2, 3, 4, 10] rfl rfl (by decide) (by decide) hk1 hFc hP1 hD1
  replace hP := hP.sub (ws' := (wL cI cJ b1 b0 bw bq bf g0 gr gl gw gs bo w en pl cu li ld fb v4 rw mn at_ ml md_l wd md sm fr no v2)) [0, 1, 2, 3, 4, 6, 7, 8, 9, 10, 5] rfl
  replace hD := hD.sub (ws' := (wL cI cJ b1 b0 bw bq bf g0 gr gl gw gs bo w en pl cu li ld fb v4 rw mn at_ ml md_l wd md sm fr no v2)) [0, 1, 2, 3, 4, 6, 7, 8, 9, 10, 5] (by decide) rfl
  clear hk1 hP1 hK1 hD1 hvm hz1 hPc hDc hFc
  generalize H1 = H at hP hS ⊢
  refine W.widen (k := 11 + (kk + 1)) (n := 8761 + 6 * (kk + 1)) (by omega) (by omega) ?_
  have hP : va_P (dC, dI) vwCl (wL cI cJ b1 b0 bw bq bf g0 gr gl gw gs bo w en pl cu li ld fb v4 rw mn at_ ml md_l wd md sm fr no v2) H := hP
  have hD : va_D A (wL cI cJ b1 b0 bw bq bf g0 gr gl gw gs bo w en pl cu li ld fb v4 rw mn at_ ml md_l wd md sm fr no v2) := hD
  refine lv_iload hx hb dL_law_891 (lv_at hl 1 rfl) ?_
  refine lv_icmp_eq (tgt := 898) hx hb dL_law_893 (by decide) (fun c6 => ?_) (fun c6 => ?_)
  · replace hj := ja_pos c6 hj
    refine lv_iload hx hb dL_law_898 (lv_at hl 1 rfl) ?_
    refine lv_if_ne (tgt := 915) hx hb dL_law_900 (by decide) (fun c7 => ?_) (fun c7 => ?_)
    · replace hj := ja_neg c7 hj
      refine lv_goto (tgt := 1465) hx hb dL_law_915 (by decide) ?_
      have hr9 : (w, en, pl, cu, li, ld, fb, v4, rw, mn, at_, ml, md_l, wd, md, sm, fr, no, v2) = r := Option.some.inj hj
      subst hr9
      exact hk H locs ls hP hD hS (lv_sub hl [2, 3, 4, 5, 6] rfl)
    · replace hj := ja_pos c7 hj
      refine lv_aload_n hx hb dL_law_903 rfl (lv_at hl 5 rfl) ?_
      refine lv_iconst (v := (0 : Int32)) hx hb dL_law_904 (by decide) ?_
      refine va_lald hx hb hK hP 10 1 rfl rfl (show vp_in (0 : Int32) 1 by unfold vp_in; decide) dL_law_905 ?_
      refine lv_iload hx hb dL_law_906 (lv_at hl 0 rfl) ?_
      refine lv_i2l hx hb dL_law_908 rfl ?_
      refine W.lcmp hx hb dL_law_909 ?_
      refine lv_if_eq (tgt := 915) hx hb dL_law_910 (by decide) (fun c8 => ?_) (fun c8 => ?_)
      · replace hj := ja_pos ((lg_cmp_eq (v2 (0 : Int32).toNatClampNeg) v3.toInt64).mp c8) hj
        refine lv_goto (tgt := 1465) hx hb dL_law_915 (by decide) ?_
        have hr9 : (w, en, pl, cu, li, ld, fb, v4, rw, mn, at_, ml, md_l, wd, md, sm, fr, no, v2) = r := Option.some.inj hj
        subst hr9
        exact hk H locs ls hP hD hS (lv_sub hl [2, 3, 4, 5, 6] rfl)
      · replace hj := ja_neg (fun h9 => c8 ((lg_cmp_eq (v2 (0 : Int32).toNatClampNeg) v3.toInt64).mpr h9)) hj
        refine lv_iconst (v := (0 : Int32)) hx hb dL_law_913 (by decide) ?_
        cases hj
  · replace hj := ja_neg c6 hj
    refine lv_iconst (v := (0 : Int32)) hx hb dL_law_896 (by decide) ?_
    cases hj
