def jC_14 (w : Nat → Int64) (en : Int32) (pl : Int32) (cu : Int32) (li : Nat → Int64) (ld : Int32) (fb : Nat → Int64) (th : Int32) (rw : Nat → Int32) (mn : Int32) (at_ : Int32) (ml : Nat → Int64) (md_l : Int32) (wd : Nat → Int32) (md : Int32) (sm : Nat → Int64) (fr : Int32) (no : Int32) (ou : Nat → Int64) (v_1 v_2 v_3 v_4 : Int32) : Option (jSt9) :=
  (j_L_putAll w en li ld fb ou v_1 v_2).bind fun (v1, v2, v3, v4) => ((j_X2_putAll th rw mn ml md_l wd md sm v_1 v_2).bind fun (v5, v6, v7, v8, v9, v10) => ((j_X2_thrown v6).bind fun v11 => (if v11 = v1 then (if v1 = (0 : Int32) then (if (v4 (0 : Int32).toNatClampNeg) = v5.toInt64 then (some (v2, v3, pl, cu, li, ld, fb, v6, v7, v8, at_, ml, md_l, v9, v10, sm, fr, no, v4)) else (none)) else (some (v2, v3, pl, cu, li, ld, fb, v6, v7, v8, at_, ml, md_l, v9, v10, sm, fr, no, v4))) else (none))))
set_option maxHeartbeats 4000000 in
set_option maxRecDepth 100000 in
theorem sl_14 {p : Program} {l : Launch} {e : Env} {s : State} {m : MethodId} {below : List Frame} {meth : Method} {c : Code} {dC : Nat → ClassId} {dI : Nat → Nat → Nat} {cI cJ : ClassId} {b L : Nat} {xs : Nat → Int32} (hlt : l.stackTraces = false) (C0 : sl_Cx p s m meth c b L xs) (hK : va_K (dC, dI) vwCl (jTy cI cJ) s) (hN : jNs s) (hXs : jXs (fun q : Nat => s.heap.size ≤ q) s) (hL : L ≤ 2560) (b1 : Nat) (b0 : Nat) (bw : Nat) (bq : Nat) (bf : Nat) (g0 : Nat) (gr : Nat) (gl : Nat) (gw : Nat) (gs : Nat) (bo : Nat) (w : Nat → Int64) (en : Int32) (pl : Int32) (cu : Int32) (li : Nat → Int64) (ld : Int32) (fb : Nat → Int64) (th : Int32) (rw : Nat → Int32) (mn : Int32) (at_ : Int32) (ml : Nat → Int64) (md_l : Int32) (wd : Nat → Int32) (md : Int32) (sm : Nat → Int64) (fr : Int32) (no : Int32) (ou : Nat → Int64) (i kk : Nat) (hi : i + 5 ≤ L) (hkk : kk < 512) (r : jSt9) (hj : jC_14 w en pl cu li ld fb th rw mn at_ ml md_l wd md sm fr no ou (xs (i + 1)) (xs (i + 2)) (xs (i + 3)) (xs (i + 4)) = some r)
    (hk : ∀ (H : Heap) (locs : List Loc) (ls : Array Slot), va_P (dC, dI) vwCl (wL cI cJ b1 b0 bw bq bf g0 gr gl gw gs bo r.1 r.2.1 r.2.2.1 r.2.2.2.1 r.2.2.2.2.1 r.2.2.2.2.2.1 r.2.2.2.2.2.2.1 r.2.2.2.2.2.2.2.1 r.2.2.2.2.2.2.2.2.1 r.2.2.2.2.2.2.2.2.2.1 r.2.2.2.2.2.2.2.2.2.2.1 r.2.2.2.2.2.2.2.2.2.2.2.1 r.2.2.2.2.2.2.2.2.2.2.2.2.1 r.2.2.2.2.2.2.2.2.2.2.2.2.2.1 r.2.2.2.2.2.2.2.2.2.2.2.2.2.2.1 r.2.2.2.2.2.2.2.2.2.2.2.2.2.2.2.1 r.2.2.2.2.2.2.2.2.2.2.2.2.2.2.2.2.1 r.2.2.2.2.2.2.2.2.2.2.2.2.2.2.2.2.2.1 r.2.2.2.2.2.2.2.2.2.2.2.2.2.2.2.2.2.2) H → va_D (fun q : Nat => s.heap.size ≤ q) (wL cI cJ b1 b0 bw bq bf g0 gr gl gw gs bo r.1 r.2.1 r.2.2.1 r.2.2.2.1 r.2.2.2.2.1 r.2.2.2.2.2.1 r.2.2.2.2.2.2.1 r.2.2.2.2.2.2.2.1 r.2.2.2.2.2.2.2.2.1 r.2.2.2.2.2.2.2.2.2.1 r.2.2.2.2.2.2.2.2.2.2.1 r.2.2.2.2.2.2.2.2.2.2.2.1 r.2.2.2.2.2.2.2.2.2.2.2.2.1 r.2.2.2.2.2.2.2.2.2.2.2.2.2.1 r.2.2.2.2.2.2.2.2.2.2.2.2.2.2.1 r.2.2.2.2.2.2.2.2.2.2.2.2.2.2.2.1 r.2.2.2.2.2.2.2.2.2.2.2.2.2.2.2.2.1 r.2.2.2.2.2.2.2.2.2.2.2.2.2.2.2.2.2.1 r.2.2.2.2.2.2.2.2.2.2.2.2.2.2.2.2.2.2) → va_S (fun q : Nat => s.heap.size ≤ q) s.heap H locs → lv_has ls 8 [(0, .ref b), (1, .ref b1), (2, .ref g0), (3, .ref bo), (4, .int (nI i))] → W p l e room_1 s m #[Value.ref b] below meth c H locs (11 + (kk + 1)) (8761 + 6 * (kk + 1)) (lw_Z below #[Value.ref b] s) (F0 m 1465 ls [])) :
    ∀ (H : Heap) (locs : List Loc) (ls : Array Slot), va_P (dC, dI) vwCl (wL cI cJ b1 b0 bw bq bf g0 gr gl gw gs bo w en pl cu li ld fb th rw mn at_ ml md_l wd md sm fr no ou) H → va_D (fun q : Nat => s.heap.size ≤ q) (wL cI cJ b1 b0 bw bq bf g0 gr gl gw gs bo w en pl cu li ld fb th rw mn at_ ml md_l wd md sm fr no ou) → va_S (fun q : Nat => s.heap.size ≤ q) s.heap H locs → lv_has ls 8 [(0, .ref b), (1, .ref b1), (2, .ref g0), (3, .ref bo), (4, .int (nI i))] → W p l e room_1 s m #[Value.ref b] below meth c H locs (11 + kk) (8761 + 6 * kk) (lw_Z below #[Value.ref b] s) (F0 m 918 ls []) := by
  obtain ⟨hx, hb, hr, hml, hown, hts, hX, hbl, hlocks⟩ := id C0
  have hA : ∀ q : Nat, s.heap.size ≤ q → (fun q : Nat => s.heap.size ≤ q) q := fun _ h => h
  have hbA : ¬ (fun q : Nat => s.heap.size ≤ q) b := Nat.not_le.mpr hbl
  intro H locs ls hP hD hS hl
  generalize hAe : (fun q : Nat => s.heap.size ≤ q) = A at hA hbA hXs hD hS hk ⊢
  clear hAe
  unfold jC_14 at hj
  refine lv_aload_n hx hb dL_law_918 rfl (lv_at hl 1 rfl) ?_
  refine lv_aload_n hx hb dL_law_919 rfl (lv_at hl 0 rfl) ?_
  refine lv_iload hx hb dL_law_920 (lv_at hl 4 rfl) ?_
  refine lv_iconst (v := (1 : Int32)) hx hb dL_law_922 (by decide) ?_
  refine lv_iadd hx hb dL_law_923 ?_
  refine sl_ld hx hb hX hbl hbA hS (j := i + 1) (by omega) hL (nI_add i 1) dL_law_924 ?_
  refine lv_aload_n hx hb dL_law_925 rfl (lv_at hl 0 rfl) ?_
  refine lv_iload hx hb dL_law_926 (lv_at hl 4 rfl) ?_
  refine lv_iconst (v := (2 : Int32)) hx hb dL_law_928 (by decide) ?_
  refine lv_iadd hx hb dL_law_929 ?_
  refine sl_ld hx hb hX hbl hbA hS (j := i + 2) (by omega) hL (nI_add i 2) dL_law_930 ?_
  refine lv_aload_n hx hb dL_law_931 rfl (lv_at hl 3 rfl) ?_
  obtain ⟨⟨v1, v2, v3, v4⟩, hc, hj⟩ := ja_bd hj
  try dsimp only at hj
  have hPc := hP.sub (ws' := (wH cJ b1 b0 bw bq bf bo w en pl cu li ld fb ou)) [0, 1, 2, 3, 4, 10] rfl
  have hDc := hD.sub (ws' := (wH cJ b1 b0 bw bq bf bo w en pl cu li ld fb ou)) [0, 1, 2, 3, 4, 10] (by decide) rfl
  have hFc := va_free (wc := (wH cJ b1 b0 bw bq bf bo w en pl cu li ld fb ou)) hD hS hA [0, 1, 2, 3, 4, 10] rfl
  refine va_calli (vx_runSW (As := [.ref b1, .int (xs (i + 1)), .int (xs (i + 2)), .ref bo]) (rest := []) ⟨hx, hb, hml, hown, hts⟩ (c_L_putAll l hlt dC dI cI cJ b1 b0 bw bq bf bo H.size w en pl cu li ld fb ou (xs (i + 1)) (xs (i + 2)) _ hc) (vx_cwSW 4 hts gL_law_L_putAll rfl rfl rfl (by decide +kernel) ⟨Nat.le_of_ble_eq_true rfl, Nat.le_of_ble_eq_true rfl⟩) ⟨fun a U g mk q => ⟨q.1, jPr.blind q.2.1, jNs.blind q.2.2.1, jXs.blind q.2.2.2⟩, fun U hU hW => ⟨rfl, jPr.mk hU hW hPc hK hDc, jNs.warm hW hN, jXs.down hU hW hS hFc hXs⟩⟩ rfl rfl hl.1 rfl (lv_room (Nat.le_of_ble_eq_true rfl)) dL_law_932 ⟨by show _ ≤ 1043; omega, by show _ ≤ 17001; omega⟩) hS (fun q _ h => hFc q h) hFc (fun rr u t H1 locs ht hvm hw9 hB hz1 hk1 hS => ?_)
  have hw8 : v1 = rr := hw9.symm
  subst hw8
  obtain ⟨hP1, hK1, hD1⟩ := hB
  rw [ht] at hP1
  obtain ⟨hP, hD⟩ := va_join (wr := ([(g0, .inr (2, [.int th, .ref gr, .int mn, .int at_, .ref gl, .int md_l, .ref gw, .int md, .ref gs, .int fr, .int no])), (gr, .inl (cI, 4096, .inl rw)), (gl, .inl (cJ, 100, .inr (.inl ml))), (gw, .inl (cI, 4200, .inl wd)), (gs, .inl (cJ, 92, .inr (.inl sm)))] : va_W)) (w1 := (wH cJ b1 b0 bw bq bf bo v2 v3 pl cu li ld fb v4)) hP hD [0, 1, 2, 3, 4, 10] [5, 6, 7, 8, 9] rfl rfl (by decide) (by decide) hk1 hFc hP1 hD1
  replace hP := hP.sub (ws' := (wL cI cJ b1 b0 bw bq bf g0 gr gl gw gs bo v2 v3 pl cu li ld fb th rw mn at_ ml md_l wd md sm fr no v4)) [5, 6, 7, 8, 9, 0, 1, 2, 3, 4, 10] rfl
  replace hD := hD.sub (ws' := (wL cI cJ b1 b0 bw bq bf g0 gr gl gw gs bo v2 v3 pl cu li ld fb th rw mn at_ ml md_l wd md sm fr no v4)) [5, 6, 7, 8, 9, 0, 1, 2, 3, 4, 10] (by decide) rfl
  clear hk1 hP1 hK1 hD1 hvm hz1 hPc hDc hFc
  generalize H1 = H at hP hS ⊢
  refine W.widen (k := 11 + (kk + 1)) (n := 8761 + 6 * (kk + 1)) (by omega) (by omega) ?_
  have hP : va_P (dC, dI) vwCl (wL cI cJ b1 b0 bw bq bf g0 gr gl gw gs bo v2 v3 pl cu li ld fb th rw mn at_ ml md_l wd md sm fr no v4) H := hP
  have hD : va_D A (wL cI cJ b1 b0 bw bq bf g0 gr gl gw gs bo v2 v3 pl cu li ld fb th rw mn at_ ml md_l wd md sm fr no v4) := hD
  refine lv_istore (lv' := [(5, .int v1), (0, .ref b), (1, .ref b1), (2, .ref g0), (3, .ref bo), (4, .int (nI i))]) hx hb dL_law_935 hl (by decide) rfl (fun ls hl => ?_)
  refine lv_aload_n hx hb dL_law_937 rfl (lv_at hl 3 rfl) ?_
  refine lv_aload_n hx hb dL_law_938 rfl (lv_at hl 1 rfl) ?_
  refine lv_iload hx hb dL_law_939 (lv_at hl 5 rfl) ?_
  refine lv_iconst (v := (1 : Int32)) hx hb dL_law_941 (by decide) ?_
  refine lv_iadd hx hb dL_law_942 ?_
  refine sl_ld hx hb hX hbl hbA hS (j := i + 1) (by omega) hL (nI_add i 1) dL_law_943 ?_
  refine lv_aload_n hx hb dL_law_944 rfl (lv_at hl 1 rfl) ?_
  refine lv_iload hx hb dL_law_945 (lv_at hl 5 rfl) ?_
  refine lv_iconst (v := (2 : Int32)) hx hb dL_law_947 (by decide) ?_
  refine lv_iadd hx hb dL_law_948 ?_
  refine sl_ld hx hb hX hbl hbA hS (j := i + 2) (by omega) hL (nI_add i 2) dL_law_949 ?_
  obtain ⟨⟨v5, v6, v7, v8, v9, v10⟩, hc, hj⟩ := ja_bd hj
  try dsimp only at hj
  have hPc := hP.sub (ws' := (wM cI cJ g0 gr gl gw gs th rw mn at_ ml md_l wd md sm fr no)) [5, 6, 7, 8, 9] rfl
  have hDc := hD.sub (ws' := (wM cI cJ g0 gr gl gw gs th rw mn at_ ml md_l wd md sm fr no)) [5, 6, 7, 8, 9] (by decide) rfl
  have hFc := va_free (wc := (wM cI cJ g0 gr gl gw gs th rw mn at_ ml md_l wd md sm fr no)) hD hS hA [5, 6, 7, 8, 9] rfl
  refine va_calli (va_runV (As := [.int (xs (i + 1)), .int (xs (i + 2))]) (rest := []) ⟨hx, hb, hml, hown, hts⟩ (c_X2_putAll l dC dI cI cJ g0 gr gl gw gs H.size th rw mn at_ ml md_l wd md sm fr no (xs (i + 1)) (xs (i + 2)) _ hc) (cwV 2 hts gL_law_X2_putAll rfl rfl rfl (by decide +kernel) ⟨Nat.le_of_ble_eq_true rfl, Nat.le_of_ble_eq_true rfl⟩) ⟨fun a U g mk q => ⟨q.1, jPr.blind q.2⟩, va_recv hK hPc (ci := 2) (q0 := 0) rfl rfl, fun U hU hW => ⟨rfl, jPr.mk hU hW hPc hK hDc⟩⟩ rfl rfl hl.1 rfl (lv_room (Nat.le_of_ble_eq_true rfl)) dL_law_950 ⟨by show _ ≤ 1043; omega, by show _ ≤ 17001; omega⟩) hS (fun q _ h => hFc q h) hFc (fun rr u t H1 locs ht hvm hw9 hB hz1 hk1 hS => ?_)
  have hw8 : v5 = rr := hw9.symm
  subst hw8
  obtain ⟨hP1, hK1, hD1⟩ := hB
  rw [ht] at hP1
  obtain ⟨hP, hD⟩ := va_join (wr := ([(b1, .inr (1, [.ref b0, .ref bq, .ref bf, .int ld])), (b0, .inr (0, [.ref bw, .int v3, .int pl, .int cu])), (bw, .inl (cJ, 64, .inr (.inl v2))), (bq, .inl (cJ, 100, .inr (.inl li))), (bf, .inl (cJ, 89, .inr (.inl fb))), (bo, .inl (cJ, 1, .inr (.inl v4)))] : va_W)) (w1 := (wM cI cJ g0 gr gl gw gs v6 v7 v8 at_ ml md_l v9 v10 sm fr no)) hP hD [5, 6, 7, 8, 9] [0, 1, 2, 3, 4, 10] rfl rfl (by decide) (by decide) hk1 hFc hP1 hD1
  replace hP := hP.sub (ws' := (wL cI cJ b1 b0 bw bq bf g0 gr gl gw gs bo v2 v3 pl cu li ld fb v6 v7 v8 at_ ml md_l v9 v10 sm fr no v4)) [0, 1, 2, 3, 4, 6, 7, 8, 9, 10, 5] rfl
  replace hD := hD.sub (ws' := (wL cI cJ b1 b0 bw bq bf g0 gr gl gw gs bo v2 v3 pl cu li ld fb v6 v7 v8 at_ ml md_l v9 v10 sm fr no v4)) [0, 1, 2, 3, 4, 6, 7, 8, 9, 10, 5] (by decide) rfl
  clear hk1 hP1 hK1 hD1 hvm hz1 hPc hDc hFc
  generalize H1 = H at hP hS ⊢
  refine W.widen (k := 11 + (kk + 1)) (n := 8761 + 6 * (kk + 1)) (by omega) (by omega) ?_
  have hP : va_P (dC, dI) vwCl (wL cI cJ b1 b0 bw bq bf g0 gr gl gw gs bo v2 v3 pl cu li ld fb v6 v7 v8 at_ ml md_l v9 v10 sm fr no v4) H := hP
  have hD : va_D A (wL cI cJ b1 b0 bw bq bf g0 gr gl gw gs bo v2 v3 pl cu li ld fb v6 v7 v8 at_ ml md_l v9 v10 sm fr no v4) := hD
  refine lv_istore (lv' := [(6, .int v5), (5, .int v1), (0, .ref b), (1, .ref b1), (2, .ref g0), (3, .ref bo), (4, .int (nI i))]) hx hb dL_law_953 hl (by decide) rfl (fun ls hl => ?_)
  refine lv_aload_n hx hb dL_law_955 rfl (lv_at hl 4 rfl) ?_
  obtain ⟨v11, hc, hj⟩ := ja_bd hj
  try dsimp only at hj
  have hPc := hP.sub (ws' := (wM cI cJ g0 gr gl gw gs v6 v7 v8 at_ ml md_l v9 v10 sm fr no)) [5, 6, 7, 8, 9] rfl
  have hDc := hD.sub (ws' := (wM cI cJ g0 gr gl gw gs v6 v7 v8 at_ ml md_l v9 v10 sm fr no)) [5, 6, 7, 8, 9] (by decide) rfl
  have hFc := va_free (wc := (wM cI cJ g0 gr gl gw gs v6 v7 v8 at_ ml md_l v9 v10 sm fr no)) hD hS hA [5, 6, 7, 8, 9] rfl
  refine va_calli (va_runV (As := []) (rest := []) ⟨hx, hb, hml, hown, hts⟩ (c_X2_thrown l dC dI cI cJ g0 gr gl gw gs H.size v6 v7 v8 at_ ml md_l v9 v10 sm fr no _ hc) (cwV 0 hts gL_law_X2_thrown rfl rfl rfl (by decide +kernel) ⟨Nat.le_of_ble_eq_true rfl, Nat.le_of_ble_eq_true rfl⟩) ⟨fun a U g mk q => ⟨q.1, jPr.blind q.2⟩, va_recv hK hPc (ci := 2) (q0 := 0) rfl rfl, fun U hU hW => ⟨rfl, jPr.mk hU hW hPc hK hDc⟩⟩ rfl rfl hl.1 rfl (lv_room (Nat.le_of_ble_eq_true rfl)) dL_law_956 ⟨by show _ ≤ 1043; omega, by show _ ≤ 17001; omega⟩) hS (fun q _ h => hFc q h) hFc (fun rr u t H1 locs ht hvm hw9 hB hz1 hk1 hS => ?_)
  have hw8 : v11 = rr := hw9.symm
  subst hw8
  obtain ⟨hP1, hK1, hD1⟩ := hB
  rw [ht] at hP1
  obtain ⟨hP, hD⟩ := va_join (wr := ([(b1, .inr (1, [.ref b0, .ref bq, .ref bf, .int ld])), (b0, .inr (0, [.ref bw, .int v3, .int pl, .int cu])), (bw, .inl (cJ, 64, .inr (.inl v2))), (bq, .inl (cJ, 100, .inr (.inl li))), (bf, .inl (cJ, 89, .inr (.inl fb))), (bo, .inl (cJ, 1, .inr (.inl v4)))] : va_W)) (w1 := (wM cI cJ g0 gr gl gw gs v6 v7 v8 at_ ml md_l v9 v10 sm fr no)) hP hD [5, 6, 7, 8, 9] [0, 1, 2, 3, 4, 10] rfl rfl (by decide) (by decide) hk1 hFc hP1 hD1
  replace hP := hP.sub (ws' := (wL cI cJ b1 b0 bw bq bf g0 gr gl gw gs bo v2 v3 pl cu li ld fb v6 v7 v8 at_ ml md_l v9 v10 sm fr no v4)) [0, 1, 2, 3, 4, 6, 7, 8, 9, 10, 5] rfl
  replace hD := hD.sub (ws' := (wL cI cJ b1 b0 bw bq bf g0 gr gl gw gs bo v2 v3 pl cu li ld fb v6 v7 v8 at_ ml md_l v9 v10 sm fr no v4)) [0, 1, 2, 3, 4, 6, 7, 8, 9, 10, 5] (by decide) rfl
  clear hk1 hP1 hK1 hD1 hvm hz1 hPc hDc hFc
  generalize H1 = H at hP hS ⊢
  refine W.widen (k := 11 + (kk + 1)) (n := 8761 + 6 * (kk + 1)) (by omega) (by omega) ?_
  have hP : va_P (dC, dI) vwCl (wL cI cJ b1 b0 bw bq bf g0 gr gl gw gs bo v2 v3 pl cu li ld fb v6 v7 v8 at_ ml md_l v9 v10 sm fr no v4) H := hP
  have hD : va_D A (wL cI cJ b1 b0 bw bq bf g0 gr gl gw gs bo v2 v3 pl cu li ld fb v6 v7 v8 at_ ml md_l v9 v10 sm fr no v4) := hD
  refine lv_iload hx hb dL_law_959 (lv_at hl 1 rfl) ?_
  refine lv_icmp_eq (tgt := 966) hx hb dL_law_961 (by decide) (fun c12 => ?_) (fun c12 => ?_)
  · replace hj := ja_pos c12 hj
    refine lv_iload hx hb dL_law_966 (lv_at hl 1 rfl) ?_
    refine lv_if_ne (tgt := 983) hx hb dL_law_968 (by decide) (fun c13 => ?_) (fun c13 => ?_)
    · replace hj := ja_neg c13 hj
      refine lv_goto (tgt := 1465) hx hb dL_law_983 (by decide) ?_
      have hr9 : (v2, v3, pl, cu, li, ld, fb, v6, v7, v8, at_, ml, md_l, v9, v10, sm, fr, no, v4) = r := Option.some.inj hj
      subst hr9
      exact hk H locs ls hP hD hS (lv_sub hl [2, 3, 4, 5, 6] rfl)
    · replace hj := ja_pos c13 hj
      refine lv_aload_n hx hb dL_law_971 rfl (lv_at hl 5 rfl) ?_
      refine lv_iconst (v := (0 : Int32)) hx hb dL_law_972 (by decide) ?_
      refine va_lald hx hb hK hP 10 1 rfl rfl (show vp_in (0 : Int32) 1 by unfold vp_in; decide) dL_law_973 ?_
      refine lv_iload hx hb dL_law_974 (lv_at hl 0 rfl) ?_
      refine lv_i2l hx hb dL_law_976 rfl ?_
      refine W.lcmp hx hb dL_law_977 ?_
      refine lv_if_eq (tgt := 983) hx hb dL_law_978 (by decide) (fun c14 => ?_) (fun c14 => ?_)
      · replace hj := ja_pos ((lg_cmp_eq (v4 (0 : Int32).toNatClampNeg) v5.toInt64).mp c14) hj
        refine lv_goto (tgt := 1465) hx hb dL_law_983 (by decide) ?_
        have hr9 : (v2, v3, pl, cu, li, ld, fb, v6, v7, v8, at_, ml, md_l, v9, v10, sm, fr, no, v4) = r := Option.some.inj hj
        subst hr9
        exact hk H locs ls hP hD hS (lv_sub hl [2, 3, 4, 5, 6] rfl)
      · replace hj := ja_neg (fun h9 => c14 ((lg_cmp_eq (v4 (0 : Int32).toNatClampNeg) v5.toInt64).mpr h9)) hj
        refine lv_iconst (v := (0 : Int32)) hx hb dL_law_981 (by decide) ?_
        cases hj
  · replace hj := ja_neg c12 hj
    refine lv_iconst (v := (0 : Int32)) hx hb dL_law_964 (by decide) ?_
    cases hj
def jC_15 (w : Nat → Int64) (en : Int32) (pl : Int32) (cu : Int32) (li : Nat → Int64) (ld : Int32) (fb : Nat → Int64) (th : Int32) (rw : Nat → Int32) (mn : Int32) (at_ : Int32) (ml : Nat → Int64) (md_l : Int32) (wd : Nat → Int32) (md : Int32) (sm : Nat → Int64) (fr : Int32) (no : Int32) (ou : Nat → Int64) (v_1 v_2 v_3 v_4 : Int32) : Option (jSt9) :=
  (j_L_takeAll w en pl cu li ld fb ou v_1 v_2).bind fun (v1, v2, v3, v4, v5, v6) => ((j_X2_takeAll th rw mn at_ ml md_l sm fr no v_1 v_2).bind fun (v7, v8, v9, v10, v11, v12, v13) => ((j_X2_thrown v8).bind fun v14 => (if v14 = v1 then (if v1 = (0 : Int32) then (if (v6 (0 : Int32).toNatClampNeg) = v7.toInt64 then (some (w, en, v2, v3, v4, v5, fb, v8, rw, mn, v9, v10, v11, wd, md, sm, v12, v13, v6)) else (none)) else (some (w, en, v2, v3, v4, v5, fb, v8, rw, mn, v9, v10, v11, wd, md, sm, v12, v13, v6))) else (none))))
set_option maxHeartbeats 4000000 in
set_option maxRecDepth 100000 in
theorem sl_15 {p : Program} {l : Launch} {e : Env} {s : State} {m : MethodId} {below : List Frame} {meth : Method} {c : Code} {dC : Nat → ClassId} {dI : Nat → Nat → Nat} {cI cJ : ClassId} {b L : Nat} {xs : Nat → Int32} (hlt : l.stackTraces = false) (C0 : sl_Cx p s m meth c b L xs) (hK : va_K (dC, dI) vwCl (jTy cI cJ) s) (hN : jNs s) (hXs : jXs (fun q : Nat => s.heap.size ≤ q) s) (hL : L ≤ 2560) (b1 : Nat) (b0 : Nat) (bw : Nat) (bq : Nat) (bf : Nat) (g0 : Nat) (gr : Nat) (gl : Nat) (gw : Nat) (gs : Nat) (bo : Nat) (w : Nat → Int64) (en : Int32) (pl : Int32) (cu : Int32) (li : Nat → Int64) (ld : Int32) (fb : Nat → Int64) (th : Int32) (rw : Nat → Int32) (mn : Int32) (at_ : Int32) (ml : Nat → Int64) (md_l : Int32) (wd : Nat → Int32) (md : Int32) (sm : Nat → Int64) (fr : Int32) (no : Int32) (ou : Nat → Int64) (i kk : Nat) (hi : i + 5 ≤ L) (hkk : kk < 512) (r : jSt9) (hj : jC_15 w en pl cu li ld fb th rw mn at_ ml md_l wd md sm fr no ou (xs (i + 1)) (xs (i + 2)) (xs (i + 3)) (xs (i + 4)) = some r)
    (hk : ∀ (H : Heap) (locs : List Loc) (ls : Array Slot), va_P (dC, dI) vwCl (wL cI cJ b1 b0 bw bq bf g0 gr gl gw gs bo r.1 r.2.1 r.2.2.1 r.2.2.2.1 r.2.2.2.2.1 r.2.2.2.2.2.1 r.2.2.2.2.2.2.1 r.2.2.2.2.2.2.2.1 r.2.2.2.2.2.2.2.2.1 r.2.2.2.2.2.2.2.2.2.1 r.2.2.2.2.2.2.2.2.2.2.1 r.2.2.2.2.2.2.2.2.2.2.2.1 r.2.2.2.2.2.2.2.2.2.2.2.2.1 r.2.2.2.2.2.2.2.2.2.2.2.2.2.1 r.2.2.2.2.2.2.2.2.2.2.2.2.2.2.1 r.2.2.2.2.2.2.2.2.2.2.2.2.2.2.2.1 r.2.2.2.2.2.2.2.2.2.2.2.2.2.2.2.2.1 r.2.2.2.2.2.2.2.2.2.2.2.2.2.2.2.2.2.1 r.2.2.2.2.2.2.2.2.2.2.2.2.2.2.2.2.2.2) H → va_D (fun q : Nat => s.heap.size ≤ q) (wL cI cJ b1 b0 bw bq bf g0 gr gl gw gs bo r.1 r.2.1 r.2.2.1 r.2.2.2.1 r.2.2.2.2.1 r.2.2.2.2.2.1 r.2.2.2.2.2.2.1 r.2.2.2.2.2.2.2.1 r.2.2.2.2.2.2.2.2.1 r.2.2.2.2.2.2.2.2.2.1 r.2.2.2.2.2.2.2.2.2.2.1 r.2.2.2.2.2.2.2.2.2.2.2.1 r.2.2.2.2.2.2.2.2.2.2.2.2.1 r.2.2.2.2.2.2.2.2.2.2.2.2.2.1 r.2.2.2.2.2.2.2.2.2.2.2.2.2.2.1 r.2.2.2.2.2.2.2.2.2.2.2.2.2.2.2.1 r.2.2.2.2.2.2.2.2.2.2.2.2.2.2.2.2.1 r.2.2.2.2.2.2.2.2.2.2.2.2.2.2.2.2.2.1 r.2.2.2.2.2.2.2.2.2.2.2.2.2.2.2.2.2.2) → va_S (fun q : Nat => s.heap.size ≤ q) s.heap H locs → lv_has ls 8 [(0, .ref b), (1, .ref b1), (2, .ref g0), (3, .ref bo), (4, .int (nI i))] → W p l e room_1 s m #[Value.ref b] below meth c H locs (11 + (kk + 1)) (8761 + 6 * (kk + 1)) (lw_Z below #[Value.ref b] s) (F0 m 1465 ls [])) :
    ∀ (H : Heap) (locs : List Loc) (ls : Array Slot), va_P (dC, dI) vwCl (wL cI cJ b1 b0 bw bq bf g0 gr gl gw gs bo w en pl cu li ld fb th rw mn at_ ml md_l wd md sm fr no ou) H → va_D (fun q : Nat => s.heap.size ≤ q) (wL cI cJ b1 b0 bw bq bf g0 gr gl gw gs bo w en pl cu li ld fb th rw mn at_ ml md_l wd md sm fr no ou) → va_S (fun q : Nat => s.heap.size ≤ q) s.heap H locs → lv_has ls 8 [(0, .ref b), (1, .ref b1), (2, .ref g0), (3, .ref bo), (4, .int (nI i))] → W p l e room_1 s m #[Value.ref b] below meth c H locs (11 + kk) (8761 + 6 * kk) (lw_Z below #[Value.ref b] s) (F0 m 986 ls []) := by
  obtain ⟨hx, hb, hr, hml, hown, hts, hX, hbl, hlocks⟩ := id C0
  have hA : ∀ q : Nat, s.heap.size ≤ q → (fun q : Nat => s.heap.size ≤ q) q := fun _ h => h
  have hbA : ¬ (fun q : Nat => s.heap.size ≤ q) b := Nat.not_le.mpr hbl
  intro H locs ls hP hD hS hl
  generalize hAe : (fun q : Nat => s.heap.size ≤ q) = A at hA hbA hXs hD hS hk ⊢
  clear hAe
  unfold jC_15 at hj
  refine lv_aload_n hx hb dL_law_986 rfl (lv_at hl 1 rfl) ?_
  refine lv_aload_n hx hb dL_law_987 rfl (lv_at hl 0 rfl) ?_
  refine lv_iload hx hb dL_law_988 (lv_at hl 4 rfl) ?_
  refine lv_iconst (v := (1 : Int32)) hx hb dL_law_990 (by decide) ?_
  refine lv_iadd hx hb dL_law_991 ?_
  refine sl_ld hx hb hX hbl hbA hS (j := i + 1) (by omega) hL (nI_add i 1) dL_law_992 ?_
  refine lv_aload_n hx hb dL_law_993 rfl (lv_at hl 0 rfl) ?_
  refine lv_iload hx hb dL_law_994 (lv_at hl 4 rfl) ?_
  refine lv_iconst (v := (2 : Int32)) hx hb dL_law_996 (by decide) ?_
  refine lv_iadd hx hb dL_law_997 ?_
  refine sl_ld hx hb hX hbl hbA hS (j := i + 2) (by omega) hL (nI_add i 2) dL_law_998 ?_
  refine lv_aload_n hx hb dL_law_999 rfl (lv_at hl 3 rfl) ?_
  obtain ⟨⟨v1, v2, v3, v4, v5, v6⟩, hc, hj⟩ := ja_bd hj
  try dsimp only at hj
  have hPc := hP.sub (ws' := (wH cJ b1 b0 bw bq bf bo w en pl cu li ld fb ou)) [0, 1, 2, 3, 4, 10] rfl
  have hDc := hD.sub (ws' := (wH cJ b1 b0 bw bq bf bo w en pl cu li ld fb ou)) [0, 1, 2, 3, 4, 10] (by decide) rfl
  have hFc := va_free (wc := (wH cJ b1 b0 bw bq bf bo w en pl cu li ld fb ou)) hD hS hA [0, 1, 2, 3, 4, 10] rfl
  refine va_calli (vx_runSW (As := [.ref b1, .int (xs (i + 1)), .int (xs (i + 2)), .ref bo]) (rest := []) ⟨hx, hb, hml, hown, hts⟩ (c_L_takeAll l hlt dC dI cI cJ b1 b0 bw bq bf bo H.size w en pl cu li ld fb ou (xs (i + 1)) (xs (i + 2)) _ hc) (vx_cwSW 4 hts gL_law_L_takeAll rfl rfl rfl (by decide +kernel) ⟨Nat.le_of_ble_eq_true rfl, Nat.le_of_ble_eq_true rfl⟩) ⟨fun a U g mk q => ⟨q.1, jPr.blind q.2.1, jNs.blind q.2.2.1, jXs.blind q.2.2.2⟩, fun U hU hW => ⟨rfl, jPr.mk hU hW hPc hK hDc, jNs.warm hW hN, jXs.down hU hW hS hFc hXs⟩⟩ rfl rfl hl.1 rfl (lv_room (Nat.le_of_ble_eq_true rfl)) dL_law_1000 ⟨by show _ ≤ 1043; omega, by show _ ≤ 17001; omega⟩) hS (fun q _ h => hFc q h) hFc (fun rr u t H1 locs ht hvm hw9 hB hz1 hk1 hS => ?_)
  have hw8 : v1 = rr := hw9.symm
  subst hw8
  obtain ⟨hP1, hK1, hD1⟩ := hB
  rw [ht] at hP1
  obtain ⟨hP, hD⟩ := va_join (wr := ([(g0, .inr (2, [.int th, .ref gr, .int mn, .int at_, .ref gl, .int md_l, .ref gw, .int md, .ref gs, .int fr, .int no])), (gr, .inl (cI, 4096, .inl rw)), (gl, .inl (cJ, 100, .inr (.inl ml))), (gw, .inl (cI, 4200, .inl wd)), (gs, .inl (cJ, 92, .inr (.inl sm)))] : va_W)) (w1 := (wH cJ b1 b0 bw bq bf bo w en v2 v3 v4 v5 fb v6)) hP hD [0, 1, 2, 3, 4, 10] [5, 6, 7, 8, 9] rfl rfl (by decide) (by decide) hk1 hFc hP1 hD1
  replace hP := hP.sub (ws' := (wL cI cJ b1 b0 bw bq bf g0 gr gl gw gs bo w en v2 v3 v4 v5 fb th rw mn at_ ml md_l wd md sm fr no v6)) [5, 6, 7, 8, 9, 0, 1, 2, 3, 4, 10] rfl
  replace hD := hD.sub (ws' := (wL cI cJ b1 b0 bw bq bf g0 gr gl gw gs bo w en v2 v3 v4 v5 fb th rw mn at_ ml md_l wd md sm fr no v6)) [5, 6, 7, 8, 9, 0, 1, 2, 3, 4, 10] (by decide) rfl
  clear hk1 hP1 hK1 hD1 hvm hz1 hPc hDc hFc
  generalize H1 = H at hP hS ⊢
  refine W.widen (k := 11 + (kk + 1)) (n := 8761 + 6 * (kk + 1)) (by omega) (by omega) ?_
  have hP : va_P (dC, dI) vwCl (wL cI cJ b1 b0 bw bq bf g0 gr gl gw gs bo w en v2 v3 v4 v5 fb th rw mn at_ ml md_l wd md sm fr no v6) H := hP
  have hD : va_D A (wL cI cJ b1 b0 bw bq bf g0 gr gl gw gs bo w en v2 v3 v4 v5 fb th rw mn at_ ml md_l wd md sm fr no v6) := hD
  refine lv_istore (lv' := [(5, .int v1), (0, .ref b), (1, .ref b1), (2, .ref g0), (3, .ref bo), (4, .int (nI i))]) hx hb dL_law_1003 hl (by decide) rfl (fun ls hl => ?_)
  refine lv_aload_n hx hb dL_law_1005 rfl (lv_at hl 3 rfl) ?_
  refine lv_aload_n hx hb dL_law_1006 rfl (lv_at hl 1 rfl) ?_
  refine lv_iload hx hb dL_law_1007 (lv_at hl 5 rfl) ?_
  refine lv_iconst (v := (1 : Int32)) hx hb dL_law_1009 (by decide) ?_
  refine lv_iadd hx hb dL_law_1010 ?_
  refine sl_ld hx hb hX hbl hbA hS (j := i + 1) (by omega) hL (nI_add i 1) dL_law_1011 ?_
  refine lv_aload_n hx hb dL_law_1012 rfl (lv_at hl 1 rfl) ?_
  refine lv_iload hx hb dL_law_1013 (lv_at hl 5 rfl) ?_
  refine lv_iconst (v := (2 : Int32)) hx hb dL_law_1015 (by decide) ?_
  refine lv_iadd hx hb dL_law_1016 ?_
  refine sl_ld hx hb hX hbl hbA hS (j := i + 2) (by omega) hL (nI_add i 2) dL_law_1017 ?_
  obtain ⟨⟨v7, v8, v9, v10, v11, v12, v13⟩, hc, hj⟩ := ja_bd hj
  try dsimp only at hj
  have hPc := hP.sub (ws' := (wM cI cJ g0 gr gl gw gs th rw mn at_ ml md_l wd md sm fr no)) [5, 6, 7, 8, 9] rfl
  have hDc := hD.sub (ws' := (wM cI cJ g0 gr gl gw gs th rw mn at_ ml md_l wd md sm fr no)) [5, 6, 7, 8, 9] (by decide) rfl
  have hFc := va_free (wc := (wM cI cJ g0 gr gl gw gs th rw mn at_ ml md_l wd md sm fr no)) hD hS hA [5, 6, 7, 8, 9] rfl
  refine va_calli (va_runV (As := [.int (xs (i + 1)), .int (xs (i + 2))]) (rest := []) ⟨hx, hb, hml, hown, hts⟩ (c_X2_takeAll l dC dI cI cJ g0 gr gl gw gs H.size th rw mn at_ ml md_l wd md sm fr no (xs (i + 1)) (xs (i + 2)) _ hc) (cwV 2 hts gL_law_X2_takeAll rfl rfl rfl (by decide +kernel) ⟨Nat.le_of_ble_eq_true rfl, Nat.le_of_ble_eq_true rfl⟩) ⟨fun a U g mk q => ⟨q.1, jPr.blind q.2⟩, va_recv hK hPc (ci := 2) (q0 := 0) rfl rfl, fun U hU hW => ⟨rfl, jPr.mk hU hW hPc hK hDc⟩⟩ rfl rfl hl.1 rfl (lv_room (Nat.le_of_ble_eq_true rfl)) dL_law_1018 ⟨by show _ ≤ 1043; omega, by show _ ≤ 17001; omega⟩) hS (fun q _ h => hFc q h) hFc (fun rr u t H1 locs ht hvm hw9 hB hz1 hk1 hS => ?_)
  have hw8 : v7 = rr := hw9.symm
  subst hw8
  obtain ⟨hP1, hK1, hD1⟩ := hB
  rw [ht] at hP1
  obtain ⟨hP, hD⟩ := va_join (wr := ([(b1, .inr (1, [.ref b0, .ref bq, .ref bf, .int v5])), (b0, .inr (0, [.ref bw, .int en, .int v2, .int v3])), (bw, .inl (cJ, 64, .inr (.inl w))), (bq, .inl (cJ, 100, .inr (.inl v4))), (bf, .inl (cJ, 89, .inr (.inl fb))), (bo, .inl (cJ, 1, .inr (.inl v6)))] : va_W)) (w1 := (wM cI cJ g0 gr gl gw gs v8 rw mn v9 v10 v11 wd md sm v12 v13)) hP hD [5, 6, 7, 8, 9] [0, 1, 2, 3, 4, 10] rfl rfl (by decide) (by decide) hk1 hFc hP1 hD1
  replace hP := hP.sub (ws' := (wL cI cJ b1 b0 bw bq bf g0 gr gl gw gs bo w en v2 v3 v4 v5 fb v8 rw mn v9 v10 v11 wd md sm v12 v13 v6)) [0, 1, 2, 3, 4, 6, 7, 8, 9, 10, 5] rfl
  replace hD := hD.sub (ws' := (wL cI cJ b1 b0 bw bq bf g0 gr gl gw gs bo w en v2 v3 v4 v5 fb v8 rw mn v9 v10 v11 wd md sm v12 v13 v6)) [0, 1, 2, 3, 4, 6, 7, 8, 9, 10, 5] (by decide) rfl
  clear hk1 hP1 hK1 hD1 hvm hz1 hPc hDc hFc
  generalize H1 = H at hP hS ⊢
  refine W.widen (k := 11 + (kk + 1)) (n := 8761 + 6 * (kk + 1)) (by omega) (by omega) ?_
  have hP : va_P (dC, dI) vwCl (wL cI cJ b1 b0 bw bq bf g0 gr gl gw gs bo w en v2 v3 v4 v5 fb v8 rw mn v9 v10 v11 wd md sm v12 v13 v6) H := hP
  have hD : va_D A (wL cI cJ b1 b0 bw bq bf g0 gr gl gw gs bo w en v2 v3 v4 v5 fb v8 rw mn v9 v10 v11 wd md sm v12 v13 v6) := hD
  refine lv_istore (lv' := [(6, .int v7), (5, .int v1), (0, .ref b), (1, .ref b1), (2, .ref g0), (3, .ref bo), (4, .int (nI i))]) hx hb dL_law_1021 hl (by decide) rfl (fun ls hl => ?_)
  refine lv_aload_n hx hb dL_law_1023 rfl (lv_at hl 4 rfl) ?_
  obtain ⟨v14, hc, hj⟩ := ja_bd hj
  try dsimp only at hj
  have hPc := hP.sub (ws' := (wM cI cJ g0 gr gl gw gs v8 rw mn v9 v10 v11 wd md sm v12 v13)) [5, 6, 7, 8, 9] rfl
  have hDc := hD.sub (ws' := (wM cI cJ g0 gr gl gw gs v8 rw mn v9 v10 v11 wd md sm v12 v13)) [5, 6, 7, 8, 9] (by decide) rfl
  have hFc := va_free (wc := (wM cI cJ g0 gr gl gw gs v8 rw mn v9 v10 v11 wd md sm v12 v13)) hD hS hA [5, 6, 7, 8, 9] rfl
  refine va_calli (va_runV (As := []) (rest := []) ⟨hx, hb, hml, hown, hts⟩ (c_X2_thrown l dC dI cI cJ g0 gr gl gw gs H.size v8 rw mn v9 v10 v11 wd md sm v12 v13 _ hc) (cwV 0 hts gL_law_X2_thrown rfl rfl rfl (by decide +kernel) ⟨Nat.le_of_ble_eq_true rfl, Nat.le_of_ble_eq_true rfl⟩) ⟨fun a U g mk q => ⟨q.1, jPr.blind q.2⟩, va_recv hK hPc (ci := 2) (q0 := 0) rfl rfl, fun U hU hW => ⟨rfl, jPr.mk hU hW hPc hK hDc⟩⟩ rfl rfl hl.1 rfl (lv_room (Nat.le_of_ble_eq_true rfl)) dL_law_1024 ⟨by show _ ≤ 1043; omega, by show _ ≤ 17001; omega⟩) hS (fun q _ h => hFc q h) hFc (fun rr u t H1 locs ht hvm hw9 hB hz1 hk1 hS => ?_)
  have hw8 : v14 = rr := hw9.symm
  subst hw8
  obtain ⟨hP1, hK1, hD1⟩ := hB
  rw [ht] at hP1
  obtain ⟨hP, hD⟩ := va_join (wr := ([(b1, .inr (1, [.ref b0, .ref bq, .ref bf, .int v5])), (b0, .inr (0, [.ref bw, .int en, .int v2, .int v3])), (bw, .inl (cJ, 64, .inr (.inl w))), (bq, .inl (cJ, 100, .inr (.inl v4))), (bf, .inl (cJ, 89, .inr (.inl fb))), (bo, .inl (cJ, 1, .inr (.inl v6)))] : va_W)) (w1 := (wM cI cJ g0 gr gl gw gs v8 rw mn v9 v10 v11 wd md sm v12 v13)) hP hD [5, 6, 7, 8, 9] [0, 1, 2, 3, 4, 10] rfl rfl (by decide) (by decide) hk1 hFc hP1 hD1
  replace hP := hP.sub (ws' := (wL cI cJ b1 b0 bw bq bf g0 gr gl gw gs bo w en v2 v3 v4 v5 fb v8 rw mn v9 v10 v11 wd md sm v12 v13 v6)) [0, 1, 2, 3, 4, 6, 7, 8, 9, 10, 5] rfl
  replace hD := hD.sub (ws' := (wL cI cJ b1 b0 bw bq bf g0 gr gl gw gs bo w en v2 v3 v4 v5 fb v8 rw mn v9 v10 v11 wd md sm v12 v13 v6)) [0, 1, 2, 3, 4, 6, 7, 8, 9, 10, 5] (by decide) rfl
  clear hk1 hP1 hK1 hD1 hvm hz1 hPc hDc hFc
  generalize H1 = H at hP hS ⊢
  refine W.widen (k := 11 + (kk + 1)) (n := 8761 + 6 * (kk + 1)) (by omega) (by omega) ?_
  have hP : va_P (dC, dI) vwCl (wL cI cJ b1 b0 bw bq bf g0 gr gl gw gs bo w en v2 v3 v4 v5 fb v8 rw mn v9 v10 v11 wd md sm v12 v13 v6) H := hP
  have hD : va_D A (wL cI cJ b1 b0 bw bq bf g0 gr gl gw gs bo w en v2 v3 v4 v5 fb v8 rw mn v9 v10 v11 wd md sm v12 v13 v6) := hD
  refine lv_iload hx hb dL_law_1027 (lv_at hl 1 rfl) ?_
  refine lv_icmp_eq (tgt := 1034) hx hb dL_law_1029 (by decide) (fun c15 => ?_) (fun c15 => ?_)
  · replace hj := ja_pos c15 hj
    refine lv_iload hx hb dL_law_1034 (lv_at hl 1 rfl) ?_
    refine lv_if_ne (tgt := 1051) hx hb dL_law_1036 (by decide) (fun c16 => ?_) (fun c16 => ?_)
    · replace hj := ja_neg c16 hj
      refine lv_goto (tgt := 1465) hx hb dL_law_1051 (by decide) ?_
      have hr9 : (w, en, v2, v3, v4, v5, fb, v8, rw, mn, v9, v10, v11, wd, md, sm, v12, v13, v6) = r := Option.some.inj hj
      subst hr9
      exact hk H locs ls hP hD hS (lv_sub hl [2, 3, 4, 5, 6] rfl)
    · replace hj := ja_pos c16 hj
      refine lv_aload_n hx hb dL_law_1039 rfl (lv_at hl 5 rfl) ?_
      refine lv_iconst (v := (0 : Int32)) hx hb dL_law_1040 (by decide) ?_
      refine va_lald hx hb hK hP 10 1 rfl rfl (show vp_in (0 : Int32) 1 by unfold vp_in; decide) dL_law_1041 ?_
      refine lv_iload hx hb dL_law_1042 (lv_at hl 0 rfl) ?_
      refine lv_i2l hx hb dL_law_1044 rfl ?_
      refine W.lcmp hx hb dL_law_1045 ?_
      refine lv_if_eq (tgt := 1051) hx hb dL_law_1046 (by decide) (fun c17 => ?_) (fun c17 => ?_)
      · replace hj := ja_pos ((lg_cmp_eq (v6 (0 : Int32).toNatClampNeg) v7.toInt64).mp c17) hj
        refine lv_goto (tgt := 1465) hx hb dL_law_1051 (by decide) ?_
        have hr9 : (w, en, v2, v3, v4, v5, fb, v8, rw, mn, v9, v10, v11, wd, md, sm, v12, v13, v6) = r := Option.some.inj hj
        subst hr9
        exact hk H locs ls hP hD hS (lv_sub hl [2, 3, 4, 5, 6] rfl)
      · replace hj := ja_neg (fun h9 => c17 ((lg_cmp_eq (v6 (0 : Int32).toNatClampNeg) v7.toInt64).mpr h9)) hj
        refine lv_iconst (v := (0 : Int32)) hx hb dL_law_1049 (by decide) ?_
        cases hj
  · replace hj := ja_neg c15 hj
    refine lv_iconst (v := (0 : Int32)) hx hb dL_law_1032 (by decide) ?_
    cases hj
def jC_16 (w : Nat → Int64) (en : Int32) (pl : Int32) (cu : Int32) (li : Nat → Int64) (ld : Int32) (fb : Nat → Int64) (th : Int32) (rw : Nat → Int32) (mn : Int32) (at_ : Int32) (ml : Nat → Int64) (md_l : Int32) (wd : Nat → Int32) (md : Int32) (sm : Nat → Int64) (fr : Int32) (no : Int32) (ou : Nat → Int64) (v_1 v_2 v_3 v_4 : Int32) : Option (jSt9) :=
  (j_L_count fb ou v_1 v_2 v_3).bind fun (v1, v2) => ((j_X2_count th sm v_1 v_2 v_3).bind fun (v3, v4) => ((j_X2_thrown v4).bind fun v5 => (if v5 = v1 then (if v1 = (0 : Int32) then (if (v2 (0 : Int32).toNatClampNeg) = v3 then (some (w, en, pl, cu, li, ld, fb, v4, rw, mn, at_, ml, md_l, wd, md, sm, fr, no, v2)) else (none)) else (some (w, en, pl, cu, li, ld, fb, v4, rw, mn, at_, ml, md_l, wd, md, sm, fr, no, v2))) else (none))))
set_option maxHeartbeats 4000000 in
set_option maxRecDepth 100000 in
theorem sl_16 {p : Program} {l : Launch} {e : Env} {s : State} {m : MethodId} {below : List Frame} {meth : Method} {c : Code} {dC : Nat → ClassId} {dI : Nat → Nat → Nat} {cI cJ : ClassId} {b L : Nat} {xs : Nat → Int32} (hlt : l.stackTraces = false) (C0 : sl_Cx p s m meth c b L xs) (hK : va_K (dC, dI) vwCl (jTy cI cJ) s) (hN : jNs s) (hXs : jXs (fun q : Nat => s.heap.size ≤ q) s) (hL : L ≤ 2560) (b1 : Nat) (b0 : Nat) (bw : Nat) (bq : Nat) (bf : Nat) (g0 : Nat) (gr : Nat) (gl : Nat) (gw : Nat) (gs : Nat) (bo : Nat) (w : Nat → Int64) (en : Int32) (pl : Int32) (cu : Int32) (li : Nat → Int64) (ld : Int32) (fb : Nat → Int64) (th : Int32) (rw : Nat → Int32) (mn : Int32) (at_ : Int32) (ml : Nat → Int64) (md_l : Int32) (wd : Nat → Int32) (md : Int32) (sm : Nat → Int64) (fr : Int32) (no : Int32) (ou : Nat → Int64) (i kk : Nat) (hi : i + 5 ≤ L) (hkk : kk < 512) (r : jSt9) (hj : jC_16 w en pl cu li ld fb th rw mn at_ ml md_l wd md sm fr no ou (xs (i + 1)) (xs (i + 2)) (xs (i + 3)) (xs (i + 4)) = some r)
    (hk : ∀ (H : Heap) (locs : List Loc) (ls : Array Slot), va_P (dC, dI) vwCl (wL cI cJ b1 b0 bw bq bf g0 gr gl gw gs bo r.1 r.2.1 r.2.2.1 r.2.2.2.1 r.2.2.2.2.1 r.2.2.2.2.2.1 r.2.2.2.2.2.2.1 r.2.2.2.2.2.2.2.1 r.2.2.2.2.2.2.2.2.1 r.2.2.2.2.2.2.2.2.2.1 r.2.2.2.2.2.2.2.2.2.2.1 r.2.2.2.2.2.2.2.2.2.2.2.1 r.2.2.2.2.2.2.2.2.2.2.2.2.1 r.2.2.2.2.2.2.2.2.2.2.2.2.2.1 r.2.2.2.2.2.2.2.2.2.2.2.2.2.2.1 r.2.2.2.2.2.2.2.2.2.2.2.2.2.2.2.1 r.2.2.2.2.2.2.2.2.2.2.2.2.2.2.2.2.1 r.2.2.2.2.2.2.2.2.2.2.2.2.2.2.2.2.2.1 r.2.2.2.2.2.2.2.2.2.2.2.2.2.2.2.2.2.2) H → va_D (fun q : Nat => s.heap.size ≤ q) (wL cI cJ b1 b0 bw bq bf g0 gr gl gw gs bo r.1 r.2.1 r.2.2.1 r.2.2.2.1 r.2.2.2.2.1 r.2.2.2.2.2.1 r.2.2.2.2.2.2.1 r.2.2.2.2.2.2.2.1 r.2.2.2.2.2.2.2.2.1 r.2.2.2.2.2.2.2.2.2.1 r.2.2.2.2.2.2.2.2.2.2.1 r.2.2.2.2.2.2.2.2.2.2.2.1 r.2.2.2.2.2.2.2.2.2.2.2.2.1 r.2.2.2.2.2.2.2.2.2.2.2.2.2.1 r.2.2.2.2.2.2.2.2.2.2.2.2.2.2.1 r.2.2.2.2.2.2.2.2.2.2.2.2.2.2.2.1 r.2.2.2.2.2.2.2.2.2.2.2.2.2.2.2.2.1 r.2.2.2.2.2.2.2.2.2.2.2.2.2.2.2.2.2.1 r.2.2.2.2.2.2.2.2.2.2.2.2.2.2.2.2.2.2) → va_S (fun q : Nat => s.heap.size ≤ q) s.heap H locs → lv_has ls 8 [(0, .ref b), (1, .ref b1), (2, .ref g0), (3, .ref bo), (4, .int (nI i))] → W p l e room_1 s m #[Value.ref b] below meth c H locs (11 + (kk + 1)) (8761 + 6 * (kk + 1)) (lw_Z below #[Value.ref b] s) (F0 m 1465 ls [])) :
    ∀ (H : Heap) (locs : List Loc) (ls : Array Slot), va_P (dC, dI) vwCl (wL cI cJ b1 b0 bw bq bf g0 gr gl gw gs bo w en pl cu li ld fb th rw mn at_ ml md_l wd md sm fr no ou) H → va_D (fun q : Nat => s.heap.size ≤ q) (wL cI cJ b1 b0 bw bq bf g0 gr gl gw gs bo w en pl cu li ld fb th rw mn at_ ml md_l wd md sm fr no ou) → va_S (fun q : Nat => s.heap.size ≤ q) s.heap H locs → lv_has ls 8 [(0, .ref b), (1, .ref b1), (2, .ref g0), (3, .ref bo), (4, .int (nI i))] → W p l e room_1 s m #[Value.ref b] below meth c H locs (11 + kk) (8761 + 6 * kk) (lw_Z below #[Value.ref b] s) (F0 m 1054 ls []) := by
  obtain ⟨hx, hb, hr, hml, hown, hts, hX, hbl, hlocks⟩ := id C0
  have hA : ∀ q : Nat, s.heap.size ≤ q → (fun q : Nat => s.heap.size ≤ q) q := fun _ h => h
  have hbA : ¬ (fun q : Nat => s.heap.size ≤ q) b := Nat.not_le.mpr hbl
  intro H locs ls hP hD hS hl
  generalize hAe : (fun q : Nat => s.heap.size ≤ q) = A at hA hbA hXs hD hS hk ⊢
  clear hAe
  unfold jC_16 at hj
  refine lv_aload_n hx hb dL_law_1054 rfl (lv_at hl 1 rfl) ?_
  refine lv_aload_n hx hb dL_law_1055 rfl (lv_at hl 0 rfl) ?_
  refine lv_iload hx hb dL_law_1056 (lv_at hl 4 rfl) ?_
  refine lv_iconst (v := (1 : Int32)) hx hb dL_law_1058 (by decide) ?_
  refine lv_iadd hx hb dL_law_1059 ?_
  refine sl_ld hx hb hX hbl hbA hS (j := i + 1) (by omega) hL (nI_add i 1) dL_law_1060 ?_
  refine lv_aload_n hx hb dL_law_1061 rfl (lv_at hl 0 rfl) ?_
  refine lv_iload hx hb dL_law_1062 (lv_at hl 4 rfl) ?_
  refine lv_iconst (v := (2 : Int32)) hx hb dL_law_1064 (by decide) ?_
  refine lv_iadd hx hb dL_law_1065 ?_
  refine sl_ld hx hb hX hbl hbA hS (j := i + 2) (by omega) hL (nI_add i 2) dL_law_1066 ?_
  refine lv_aload_n hx hb dL_law_1067 rfl (lv_at hl 0 rfl) ?_
  refine lv_iload hx hb dL_law_1068 (lv_at hl 4 rfl) ?_
  refine lv_iconst (v := (3 : Int32)) hx hb dL_law_1070 (by decide) ?_
  refine lv_iadd hx hb dL_law_1071 ?_
  refine sl_ld hx hb hX hbl hbA hS (j := i + 3) (by omega) hL (nI_add i 3) dL_law_1072 ?_
  refine lv_aload_n hx hb dL_law_1073 rfl (lv_at hl 3 rfl) ?_
  obtain ⟨⟨v1, v2⟩, hc, hj⟩ := ja_bd hj
  try dsimp only at hj
  have hPc := hP.sub (ws' := (wH cJ b1 b0 bw bq bf bo w en pl cu li ld fb ou)) [0, 1, 2, 3, 4, 10] rfl
  have hDc := hD.sub (ws' := (wH cJ b1 b0 bw bq bf bo w en pl cu li ld fb ou)) [0, 1, 2, 3, 4, 10] (by decide) rfl
  have hFc := va_free (wc := (wH cJ b1 b0 bw bq bf bo w en pl cu li ld fb ou)) hD hS hA [0, 1, 2, 3, 4, 10] rfl
  refine va_calli (vx_runSW (As := [.ref b1, .int (xs (i + 1)), .int (xs (i + 2)), .int (xs (i + 3)), .ref bo]) (rest := []) ⟨hx, hb, hml, hown, hts⟩ (c_L_count l hlt dC dI cI cJ b1 b0 bw bq bf bo H.size w en pl cu li ld fb ou (xs (i + 1)) (xs (i + 2)) (xs (i + 3)) _ hc) (vx_cwSW 5 hts gL_law_L_count rfl rfl rfl (by decide +kernel) ⟨Nat.le_of_ble_eq_true rfl, Nat.le_of_ble_eq_true rfl⟩) ⟨fun a U g mk q => ⟨q.1, jPr.blind q.2.1, jNs.blind q.2.2.1, jXs.blind q.2.2.2⟩, fun U hU hW => ⟨rfl, jPr.mk hU hW hPc hK hDc, jNs.warm hW hN, jXs.down hU hW hS hFc hXs⟩⟩ rfl rfl hl.1 rfl (lv_room (Nat.le_of_ble_eq_true rfl)) dL_law_1074 ⟨by show _ ≤ 1043; omega, by show _ ≤ 17001; omega⟩) hS (fun q _ h => hFc q h) hFc (fun rr u t H1 locs ht hvm hw9 hB hz1 hk1 hS => ?_)
  have hw8 : v1 = rr := hw9.symm
  subst hw8
  obtain ⟨hP1, hK1, hD1⟩ := hB
  rw [ht] at hP1
  obtain ⟨hP, hD⟩ := va_join (wr := ([(g0, .inr (2, [.int th, .ref gr, .int mn, .int at_, .ref gl, .int md_l, .ref gw, .int md, .ref gs, .int fr, .int no])), (gr, .inl (cI, 4096, .inl rw)), (gl, .inl (cJ, 100, .inr (.inl ml))), (gw, .inl (cI, 4200, .inl wd)), (gs, .inl (cJ, 92, .inr (.inl sm)))] : va_W)) (w1 := (wH cJ b1 b0 bw bq bf bo w en pl cu li ld fb v2)) hP hD [0, 1, 2, 3, 4, 10] [5, 6, 7, 8, 9] rfl rfl (by decide) (by decide) hk1 hFc hP1 hD1
  replace hP := hP.sub (ws' := (wL cI cJ b1 b0 bw bq bf g0 gr gl gw gs bo w en pl cu li ld fb th rw mn at_ ml md_l wd md sm fr no v2)) [5, 6, 7, 8, 9, 0, 1, 2, 3, 4, 10] rfl
  replace hD := hD.sub (ws' := (wL cI cJ b1 b0 bw bq bf g0 gr gl gw gs bo w en pl cu li ld fb th rw mn at_ ml md_l wd md sm fr no v2)) [5, 6, 7, 8, 9, 0, 1, 2, 3, 4, 10] (by decide) rfl
  clear hk1 hP1 hK1 hD1 hvm hz1 hPc hDc hFc
  generalize H1 = H at hP hS ⊢
  refine W.widen (k := 11 + (kk + 1)) (n := 8761 + 6 * (kk + 1)) (by omega) (by omega) ?_
  have hP : va_P (dC, dI) vwCl (wL cI cJ b1 b0 bw bq bf g0 gr gl gw gs bo w en pl cu li ld fb th rw mn at_ ml md_l wd md sm fr no v2) H := hP
  have hD : va_D A (wL cI cJ b1 b0 bw bq bf g0 gr gl gw gs bo w en pl cu li ld fb th rw mn at_ ml md_l wd md sm fr no v2) := hD
  refine lv_istore (lv' := [(5, .int v1), (0, .ref b), (1, .ref b1), (2, .ref g0), (3, .ref bo), (4, .int (nI i))]) hx hb dL_law_1077 hl (by decide) rfl (fun ls hl => ?_)
  refine lv_aload_n hx hb dL_law_1079 rfl (lv_at hl 3 rfl) ?_
  refine lv_aload_n hx hb dL_law_1080 rfl (lv_at hl 1 rfl) ?_
  refine lv_iload hx hb dL_law_1081 (lv_at hl 5 rfl) ?_
  refine lv_iconst (v := (1 : Int32)) hx hb dL_law_1083 (by decide) ?_
  refine lv_iadd hx hb dL_law_1084 ?_
  refine sl_ld hx hb hX hbl hbA hS (j := i + 1) (by omega) hL (nI_add i 1) dL_law_1085 ?_
  refine lv_aload_n hx hb dL_law_1086 rfl (lv_at hl 1 rfl) ?_
  refine lv_iload hx hb dL_law_1087 (lv_at hl 5 rfl) ?_
  refine lv_iconst (v := (2 : Int32)) hx hb dL_law_1089 (by decide) ?_
  refine lv_iadd hx hb dL_law_1090 ?_
  refine sl_ld hx hb hX hbl hbA hS (j := i + 2) (by omega) hL (nI_add i 2) dL_law_1091 ?_
  refine lv_aload_n hx hb dL_law_1092 rfl (lv_at hl 1 rfl) ?_
  refine lv_iload hx hb dL_law_1093 (lv_at hl 5 rfl) ?_
  refine lv_iconst (v := (3 : Int32)) hx hb dL_law_1095 (by decide) ?_
  refine lv_iadd hx hb dL_law_1096 ?_
  refine sl_ld hx hb hX hbl hbA hS (j := i + 3) (by omega) hL (nI_add i 3) dL_law_1097 ?_
  obtain ⟨⟨v3, v4⟩, hc, hj⟩ := ja_bd hj
  try dsimp only at hj
  have hPc := hP.sub (ws' := (wM cI cJ g0 gr gl gw gs th rw mn at_ ml md_l wd md sm fr no)) [5, 6, 7, 8, 9] rfl
  have hDc := hD.sub (ws' := (wM cI cJ g0 gr gl gw gs th rw mn at_ ml md_l wd md sm fr no)) [5, 6, 7, 8, 9] (by decide) rfl
  have hFc := va_free (wc := (wM cI cJ g0 gr gl gw gs th rw mn at_ ml md_l wd md sm fr no)) hD hS hA [5, 6, 7, 8, 9] rfl
  refine va_calll (va_runV (As := [.int (xs (i + 1)), .int (xs (i + 2)), .int (xs (i + 3))]) (rest := []) ⟨hx, hb, hml, hown, hts⟩ (c_X2_count l dC dI cI cJ g0 gr gl gw gs H.size th rw mn at_ ml md_l wd md sm fr no (xs (i + 1)) (xs (i + 2)) (xs (i + 3)) _ hc) (cwV 3 hts gL_law_X2_count rfl rfl rfl (by decide +kernel) ⟨Nat.le_of_ble_eq_true rfl, Nat.le_of_ble_eq_true rfl⟩) ⟨fun a U g mk q => ⟨q.1, jPr.blind q.2⟩, va_recv hK hPc (ci := 2) (q0 := 0) rfl rfl, fun U hU hW => ⟨rfl, jPr.mk hU hW hPc hK hDc⟩⟩ rfl rfl hl.1 rfl (lv_room (Nat.le_of_ble_eq_true rfl)) dL_law_1098 ⟨by show _ ≤ 1043; omega, by show _ ≤ 17001; omega⟩) hS (fun q _ h => hFc q h) hFc (fun rr u t H1 locs ht hvm hw9 hB hz1 hk1 hS => ?_)
  have hw8 : v3 = rr := hw9.symm
  subst hw8
  obtain ⟨hP1, hK1, hD1⟩ := hB
  rw [ht] at hP1
  obtain ⟨hP, hD⟩ := va_join (wr := ([(b1, .inr (1, [.ref b0, .ref bq, .ref bf, .int ld])), (b0, .inr (0, [.ref bw, .int en, .int pl, .int cu])), (bw, .inl (cJ, 64, .inr (.inl w))), (bq, .inl (cJ, 100, .inr (.inl li))), (bf, .inl (cJ, 89, .inr (.inl fb))), (bo, .inl (cJ, 1, .inr (.inl v2)))] : va_W)) (w1 := (wM cI cJ g0 gr gl gw gs v4 rw mn at_ ml md_l wd md sm fr no)) hP hD [5, 6, 7, 8, 9] [0, 1, 2, 3, 4, 10] rfl rfl (by decide) (by decide) hk1 hFc hP1 hD1
  replace hP := hP.sub (ws' := (wL cI cJ b1 b0 bw bq bf g0 gr gl gw gs bo w en pl cu li ld fb v4 rw mn at_ ml md_l wd md sm fr no v2)) [0, 1, 2, 3, 4, 6, 7, 8, 9, 10, 5] rfl
  replace hD := hD.sub (ws' := (wL cI cJ b1 b0 bw bq bf g0 gr gl gw gs bo w en pl cu li ld fb v4 rw mn at_ ml md_l wd md sm fr no v2)) [0, 1, 2, 3, 4, 6, 7, 8, 9, 10, 5] (by decide) rfl
  clear hk1 hP1 hK1 hD1 hvm hz1 hPc hDc hFc
  generalize H1 = H at hP hS ⊢
  refine W.widen (k := 11 + (kk + 1)) (n := 8761 + 6 * (kk + 1)) (by omega) (by omega) ?_
  have hP : va_P (dC, dI) vwCl (wL cI cJ b1 b0 bw bq bf g0 gr gl gw gs bo w en pl cu li ld fb v4 rw mn at_ ml md_l wd md sm fr no v2) H := hP
  have hD : va_D A (wL cI cJ b1 b0 bw bq bf g0 gr gl gw gs bo w en pl cu li ld fb v4 rw mn at_ ml md_l wd md sm fr no v2) := hD
  refine lv_lstore (lv' := [(6, .long v3), (5, .int v1), (0, .ref b), (1, .ref b1), (2, .ref g0), (3, .ref bo), (4, .int (nI i))]) hx hb dL_law_1101 hl (by decide) rfl (fun ls hl => ?_)
  refine lv_aload_n hx hb dL_law_1103 rfl (lv_at hl 4 rfl) ?_
  obtain ⟨v5, hc, hj⟩ := ja_bd hj
  try dsimp only at hj
  have hPc := hP.sub (ws' := (wM cI cJ g0 gr gl gw gs v4 rw mn at_ ml md_l wd md sm fr no)) [5, 6, 7, 8, 9] rfl
  have hDc := hD.sub (ws' := (wM cI cJ g0 gr gl gw gs v4 rw mn at_ ml md_l wd md sm fr no)) [5, 6, 7, 8, 9] (by decide) rfl
  have hFc := va_free (wc := (wM cI cJ g0 gr gl gw gs v4 rw mn at_ ml md_l wd md sm fr no)) hD hS hA [5, 6, 7, 8, 9] rfl
  refine va_calli (va_runV (As := []) (rest := []) ⟨hx, hb, hml, hown, hts⟩ (c_X2_thrown l dC dI cI cJ g0 gr gl gw gs H.size v4 rw mn at_ ml md_l wd md sm fr no _ hc) (cwV 0 hts gL_law_X2_thrown rfl rfl rfl (by decide +kernel) ⟨Nat.le_of_ble_eq_true rfl, Nat.le_of_ble_eq_true rfl⟩) ⟨fun a U g mk q => ⟨q.1, jPr.blind q.2⟩, va_recv hK hPc (ci := 2) (q0 := 0) rfl rfl, fun U hU hW => ⟨rfl, jPr.mk hU hW hPc hK hDc⟩⟩ rfl rfl hl.1 rfl (lv_room (Nat.le_of_ble_eq_true rfl)) dL_law_1104 ⟨by show _ ≤ 1043; omega, by show _ ≤ 17001; omega⟩) hS (fun q _ h => hFc q h) hFc (fun rr u t H1 locs ht hvm hw9 hB hz1 hk1 hS => ?_)
  have hw8 : v5 = rr := hw9.symm
  subst hw8
  obtain ⟨hP1, hK1, hD1⟩ := hB
  rw [ht] at hP1
  obtain ⟨hP, hD⟩ := va_join (wr := ([(b1, .inr (1, [.ref b0, .ref bq, .ref bf, .int ld])), (b0, .inr (0, [.ref bw, .int en, .int pl, .int cu])), (bw, .inl (cJ, 64, .inr (.inl w))), (bq, .inl (cJ, 100, .inr (.inl li))), (bf, .inl (cJ, 89, .inr (.inl fb))), (bo, .inl (cJ, 1, .inr (.inl v2)))] : va_W)) (w1 := (wM cI cJ g0 gr gl gw gs v4 rw mn at_ ml md_l wd md sm fr no)) hP hD [5, 6, 7, 8, 9] [0, 1, 2, 3, 4, 10] rfl rfl (by decide) (by decide) hk1 hFc hP1 hD1
  replace hP := hP.sub (ws' := (wL cI cJ b1 b0 bw bq bf g0 gr gl gw gs bo w en pl cu li ld fb v4 rw mn at_ ml md_l wd md sm fr no v2)) [0, 1, 2, 3, 4, 6, 7, 8, 9, 10, 5] rfl
  replace hD := hD.sub (ws' := (wL cI cJ b1 b0 bw bq bf g0 gr gl gw gs bo w en pl cu li ld fb v4 rw mn at_ ml md_l wd md sm fr no v2)) [0, 1, 2, 3, 4, 6, 7, 8, 9, 10, 5] (by decide) rfl
  clear hk1 hP1 hK1 hD1 hvm hz1 hPc hDc hFc
  generalize H1 = H at hP hS ⊢
  refine W.widen (k := 11 + (kk + 1)) (n := 8761 + 6 * (kk + 1)) (by omega) (by omega) ?_
  have hP : va_P (dC, dI) vwCl (wL cI cJ b1 b0 bw bq bf g0 gr gl gw gs bo w en pl cu li ld fb v4 rw mn at_ ml md_l wd md sm fr no v2) H := hP
  have hD : va_D A (wL cI cJ b1 b0 bw bq bf g0 gr gl gw gs bo w en pl cu li ld fb v4 rw mn at_ ml md_l wd md sm fr no v2) := hD
  refine lv_iload hx hb dL_law_1107 (lv_at hl 1 rfl) ?_
  refine lv_icmp_eq (tgt := 1114) hx hb dL_law_1109 (by decide) (fun c6 => ?_) (fun c6 => ?_)
  · replace hj := ja_pos c6 hj
    refine lv_iload hx hb dL_law_1114 (lv_at hl 1 rfl) ?_
    refine lv_if_ne (tgt := 1130) hx hb dL_law_1116 (by decide) (fun c7 => ?_) (fun c7 => ?_)
    · replace hj := ja_neg c7 hj
      refine lv_goto (tgt := 1465) hx hb dL_law_1130 (by decide) ?_
      have hr9 : (w, en, pl, cu, li, ld, fb, v4, rw, mn, at_, ml, md_l, wd, md, sm, fr, no, v2) = r := Option.some.inj hj
      subst hr9
      exact hk H locs ls hP hD hS (lv_sub hl [2, 3, 4, 5, 6] rfl)
    · replace hj := ja_pos c7 hj
      refine lv_aload_n hx hb dL_law_1119 rfl (lv_at hl 5 rfl) ?_
      refine lv_iconst (v := (0 : Int32)) hx hb dL_law_1120 (by decide) ?_
      refine va_lald hx hb hK hP 10 1 rfl rfl (show vp_in (0 : Int32) 1 by unfold vp_in; decide) dL_law_1121 ?_
      refine lv_lload hx hb dL_law_1122 (lv_at hl 0 rfl) ?_
      refine W.lcmp hx hb dL_law_1124 ?_
      refine lv_if_eq (tgt := 1130) hx hb dL_law_1125 (by decide) (fun c8 => ?_) (fun c8 => ?_)
      · replace hj := ja_pos ((lg_cmp_eq (v2 (0 : Int32).toNatClampNeg) v3).mp c8) hj
        refine lv_goto (tgt := 1465) hx hb dL_law_1130 (by decide) ?_
        have hr9 : (w, en, pl, cu, li, ld, fb, v4, rw, mn, at_, ml, md_l, wd, md, sm, fr, no, v2) = r := Option.some.inj hj
        subst hr9
        exact hk H locs ls hP hD hS (lv_sub hl [2, 3, 4, 5, 6] rfl)
      · replace hj := ja_neg (fun h9 => c8 ((lg_cmp_eq (v2 (0 : Int32).toNatClampNeg) v3).mpr h9)) hj
        refine lv_iconst (v := (0 : Int32)) hx hb dL_law_1128 (by decide) ?_
        cases hj
  · replace hj := ja_neg c6 hj
    refine lv_iconst (v := (0 : Int32)) hx hb dL_law_1112 (by decide) ?_
    cases hj
def jC_17 (w : Nat → Int64) (en : Int32) (pl : Int32) (cu : Int32) (li : Nat → Int64) (ld : Int32) (fb : Nat → Int64) (th : Int32) (rw : Nat → Int32) (mn : Int32) (at_ : Int32) (ml : Nat → Int64) (md_l : Int32) (wd : Nat → Int32) (md : Int32) (sm : Nat → Int64) (fr : Int32) (no : Int32) (ou : Nat → Int64) (v_1 v_2 v_3 v_4 : Int32) : Option (jSt9) :=
  (j_L_first fb ou v_1 v_2 v_3).bind fun (v1, v2) => ((j_X2_first th sm v_1 v_2 v_3).bind fun (v3, v4) => ((j_X2_thrown v4).bind fun v5 => (if v5 = v1 then (if v1 = (0 : Int32) then (if (v2 (0 : Int32).toNatClampNeg) = v3 then (some (w, en, pl, cu, li, ld, fb, v4, rw, mn, at_, ml, md_l, wd, md, sm, fr, no, v2)) else (none)) else (some (w, en, pl, cu, li, ld, fb, v4, rw, mn, at_, ml, md_l, wd, md, sm, fr, no, v2))) else (none))))
set_option maxHeartbeats 4000000 in
set_option maxRecDepth 100000 in
theorem sl_17 {p : Program} {l : Launch} {e : Env} {s : State} {m : MethodId} {below : List Frame} {meth : Method} {c : Code} {dC : Nat → ClassId} {dI : Nat → Nat → Nat} {cI cJ : ClassId} {b L : Nat} {xs : Nat → Int32} (hlt : l.stackTraces = false) (C0 : sl_Cx p s m meth c b L xs) (hK : va_K (dC, dI) vwCl (jTy cI cJ) s) (hN : jNs s) (hXs : jXs (fun q : Nat => s.heap.size ≤ q) s) (hL : L ≤ 2560) (b1 : Nat) (b0 : Nat) (bw : Nat) (bq : Nat) (bf : Nat) (g0 : Nat) (gr : Nat) (gl : Nat) (gw : Nat) (gs : Nat) (bo : Nat) (w : Nat → Int64) (en : Int32) (pl : Int32) (cu : Int32) (li : Nat → Int64) (ld : Int32) (fb : Nat → Int64) (th : Int32) (rw : Nat → Int32) (mn : Int32) (at_ : Int32) (ml : Nat → Int64) (md_l : Int32) (wd : Nat → Int32) (md : Int32) (sm : Nat → Int64) (fr : Int32) (no : Int32) (ou : Nat → Int64) (i kk : Nat) (hi : i + 5 ≤ L) (hkk : kk < 512) (r : jSt9) (hj : jC_17 w en pl cu li ld fb th rw mn at_ ml md_l wd md sm fr no ou (xs (i + 1)) (xs (i + 2)) (xs (i + 3)) (xs (i + 4)) = some r)
    (hk : ∀ (H : Heap) (locs : List Loc) (ls : Array Slot), va_P (dC, dI) vwCl (wL cI cJ b1 b0 bw bq bf g0 gr gl gw gs bo r.1 r.2.1 r.2.2.1 r.2.2.2.1 r.2.2.2.2.1 r.2.2.2.2.2.1 r.2.2.2.2.2.2.1 r.2.2.2.2.2.2.2.1 r.2.2.2.2.2.2.2.2.1 r.2.2.2.2.2.2.2.2.2.1 r.2.2.2.2.2.2.2.2.2.2.1 r.2.2.2.2.2.2.2.2.2.2.2.1 r.2.2.2.2.2.2.2.2.2.2.2.2.1 r.2.2.2.2.2.2.2.2.2.2.2.2.2.1 r.2.2.2.2.2.2.2.2.2.2.2.2.2.2.1 r.2.2.2.2.2.2.2.2.2.2.2.2.2.2.2.1 r.2.2.2.2.2.2.2.2.2.2.2.2.2.2.2.2.1 r.2.2.2.2.2.2.2.2.2.2.2.2.2.2.2.2.2.1 r.2.2.2.2.2.2.2.2.2.2.2.2.2.2.2.2.2.2) H → va_D (fun q : Nat => s.heap.size ≤ q) (wL cI cJ b1 b0 bw bq bf g0 gr gl gw gs bo r.1 r.2.1 r.2.2.1 r.2.2.2.1 r.2.2.2.2.1 r.2.2.2.2.2.1 r.2.2.2.2.2.2.1 r.2.2.2.2.2.2.2.1 r.2.2.2.2.2.2.2.2.1 r.2.2.2.2.2.2.2.2.2.1 r.2.2.2.2.2.2.2.2.2.2.1 r.2.2.2.2.2.2.2.2.2.2.2.1 r.2.2.2.2.2.2.2.2.2.2.2.2.1 r.2.2.2.2.2.2.2.2.2.2.2.2.2.1 r.2.2.2.2.2.2.2.2.2.2.2.2.2.2.1 r.2.2.2.2.2.2.2.2.2.2.2.2.2.2.2.1 r.2.2.2.2.2.2.2.2.2.2.2.2.2.2.2.2.1 r.2.2.2.2.2.2.2.2.2.2.2.2.2.2.2.2.2.1 r.2.2.2.2.2.2.2.2.2.2.2.2.2.2.2.2.2.2) → va_S (fun q : Nat => s.heap.size ≤ q) s.heap H locs → lv_has ls 8 [(0, .ref b), (1, .ref b1), (2, .ref g0), (3, .ref bo), (4, .int (nI i))] → W p l e room_1 s m #[Value.ref b] below meth c H locs (11 + (kk + 1)) (8761 + 6 * (kk + 1)) (lw_Z below #[Value.ref b] s) (F0 m 1465 ls [])) :
    ∀ (H : Heap) (locs : List Loc) (ls : Array Slot), va_P (dC, dI) vwCl (wL cI cJ b1 b0 bw bq bf g0 gr gl gw gs bo w en pl cu li ld fb th rw mn at_ ml md_l wd md sm fr no ou) H → va_D (fun q : Nat => s.heap.size ≤ q) (wL cI cJ b1 b0 bw bq bf g0 gr gl gw gs bo w en pl cu li ld fb th rw mn at_ ml md_l wd md sm fr no ou) → va_S (fun q : Nat => s.heap.size ≤ q) s.heap H locs → lv_has ls 8 [(0, .ref b), (1, .ref b1), (2, .ref g0), (3, .ref bo), (4, .int (nI i))] → W p l e room_1 s m #[Value.ref b] below meth c H locs (11 + kk) (8761 + 6 * kk) (lw_Z below #[Value.ref b] s) (F0 m 1133 ls []) := by
  obtain ⟨hx, hb, hr, hml, hown, hts, hX, hbl, hlocks⟩ := id C0
  have hA : ∀ q : Nat, s.heap.size ≤ q → (fun q : Nat => s.heap.size ≤ q) q := fun _ h => h
  have hbA : ¬ (fun q : Nat => s.heap.size ≤ q) b := Nat.not_le.mpr hbl
  intro H locs ls hP hD hS hl
  generalize hAe : (fun q : Nat => s.heap.size ≤ q) = A at hA hbA hXs hD hS hk ⊢
  clear hAe
  unfold jC_17 at hj
  refine lv_aload_n hx hb dL_law_1133 rfl (lv_at hl 1 rfl) ?_
  refine lv_aload_n hx hb dL_law_1134 rfl (lv_at hl 0 rfl) ?_
  refine lv_iload hx hb dL_law_1135 (lv_at hl 4 rfl) ?_
  refine lv_iconst (v := (1 : Int32)) hx hb dL_law_1137 (by decide) ?_
  refine lv_iadd hx hb dL_law_1138 ?_
  refine sl_ld hx hb hX hbl hbA hS (j := i + 1) (by omega) hL (nI_add i 1) dL_law_1139 ?_
  refine lv_aload_n hx hb dL_law_1140 rfl (lv_at hl 0 rfl) ?_
  refine lv_iload hx hb dL_law_1141 (lv_at hl 4 rfl) ?_
  refine lv_iconst (v := (2 : Int32)) hx hb dL_law_1143 (by decide) ?_
  refine lv_iadd hx hb dL_law_1144 ?_
  refine sl_ld hx hb hX hbl hbA hS (j := i + 2) (by omega) hL (nI_add i 2) dL_law_1145 ?_
  refine lv_aload_n hx hb dL_law_1146 rfl (lv_at hl 0 rfl) ?_
  refine lv_iload hx hb dL_law_1147 (lv_at hl 4 rfl) ?_
  refine lv_iconst (v := (3 : Int32)) hx hb dL_law_1149 (by decide) ?_
  refine lv_iadd hx hb dL_law_1150 ?_
  refine sl_ld hx hb hX hbl hbA hS (j := i + 3) (by omega) hL (nI_add i 3) dL_law_1151 ?_
  refine lv_aload_n hx hb dL_law_1152 rfl (lv_at hl 3 rfl) ?_
  obtain ⟨⟨v1, v2⟩, hc, hj⟩ := ja_bd hj
  try dsimp only at hj
  have hPc := hP.sub (ws' := (wH cJ b1 b0 bw bq bf bo w en pl cu li ld fb ou)) [0, 1, 2, 3, 4, 10] rfl
  have hDc := hD.sub (ws' := (wH cJ b1 b0 bw bq bf bo w en pl cu li ld fb ou)) [0, 1, 2, 3, 4, 10] (by decide) rfl
  have hFc := va_free (wc := (wH cJ b1 b0 bw bq bf bo w en pl cu li ld fb ou)) hD hS hA [0, 1, 2, 3, 4, 10] rfl
  refine va_calli (vx_runSW (As := [.ref b1, .int (xs (i + 1)), .int (xs (i + 2)), .int (xs (i + 3)), .ref bo]) (rest := []) ⟨hx, hb, hml, hown, hts⟩ (c_L_first l hlt dC dI cI cJ b1 b0 bw bq bf bo H.size w en pl cu li ld fb ou (xs (i + 1)) (xs (i + 2)) (xs (i + 3)) _ hc) (vx_cwSW 5 hts gL_law_L_first rfl rfl rfl (by decide +kernel) ⟨Nat.le_of_ble_eq_true rfl, Nat.le_of_ble_eq_true rfl⟩) ⟨fun a U g mk q => ⟨q.1, jPr.blind q.2.1, jNs.blind q.2.2.1, jXs.blind q.2.2.2⟩, fun U hU hW => ⟨rfl, jPr.mk hU hW hPc hK hDc, jNs.warm hW hN, jXs.down hU hW hS hFc hXs⟩⟩ rfl rfl hl.1 rfl (lv_room (Nat.le_of_ble_eq_true rfl)) dL_law_1153 ⟨by show _ ≤ 1043; omega, by show _ ≤ 17001; omega⟩) hS (fun q _ h => hFc q h) hFc (fun rr u t H1 locs ht hvm hw9 hB hz1 hk1 hS => ?_)
  have hw8 : v1 = rr := hw9.symm
  subst hw8
  obtain ⟨hP1, hK1, hD1⟩ := hB
  rw [ht] at hP1
  obtain ⟨hP, hD⟩ := va_join (wr := ([(g0, .inr (2, [.int th, .ref gr, .int mn, .int at_, .ref gl, .int md_l, .ref gw, .int md, .ref gs, .int fr, .int no])), (gr, .inl (cI, 4096, .inl rw)), (gl, .inl (cJ, 100, .inr (.inl ml))), (gw, .inl (cI, 4200, .inl wd)), (gs, .inl (cJ, 92, .inr (.inl sm)))] : va_W)) (w1 := (wH cJ b1 b0 bw bq bf bo w en pl cu li ld fb v2)) hP hD [0, 1, 2, 3, 4, 10] [5, 6, 7, 8, 9] rfl rfl (by decide) (by decide) hk1 hFc hP1 hD1
  replace hP := hP.sub (ws' := (wL cI cJ b1 b0 bw bq bf g0 gr gl gw gs bo w en pl cu li ld fb th rw mn at_ ml md_l wd md sm fr no v2)) [5, 6, 7, 8, 9, 0, 1, 2, 3, 4, 10] rfl
  replace hD := hD.sub (ws' := (wL cI cJ b1 b0 bw bq bf g0 gr gl gw gs bo w en pl cu li ld fb th rw mn at_ ml md_l wd md sm fr no v2)) [5, 6, 7, 8, 9, 0, 1, 2, 3, 4, 10] (by decide) rfl
  clear hk1 hP1 hK1 hD1 hvm hz1 hPc hDc hFc
  generalize H1 = H at hP hS ⊢
  refine W.widen (k := 11 + (kk + 1)) (n := 8761 + 6 * (kk + 1)) (by omega) (by omega) ?_
  have hP : va_P (dC, dI) vwCl (wL cI cJ b1 b0 bw bq bf g0 gr gl gw gs bo w en pl cu li ld fb th rw mn at_ ml md_l wd md sm fr no v2) H := hP
  have hD : va_D A (wL cI cJ b1 b0 bw bq bf g0 gr gl gw gs bo w en pl cu li ld fb th rw mn at_ ml md_l wd md sm fr no v2) := hD
  refine lv_istore (lv' := [(5, .int v1), (0, .ref b), (1, .ref b1), (2, .ref g0), (3, .ref bo), (4, .int (nI i))]) hx hb dL_law_1156 hl (by decide) rfl (fun ls hl => ?_)
  refine lv_aload_n hx hb dL_law_1158 rfl (lv_at hl 3 rfl) ?_
  refine lv_aload_n hx hb dL_law_1159 rfl (lv_at hl 1 rfl) ?_
  refine lv_iload hx hb dL_law_1160 (lv_at hl 5 rfl) ?_
  refine lv_iconst (v := (1 : Int32)) hx hb dL_law_1162 (by decide) ?_
  refine lv_iadd hx hb dL_law_1163 ?_
  refine sl_ld hx hb hX hbl hbA hS (j := i + 1) (by omega) hL (nI_add i 1) dL_law_1164 ?_
  refine lv_aload_n hx hb dL_law_1165 rfl (lv_at hl 1 rfl) ?_
  refine lv_iload hx hb dL_law_1166 (lv_at hl 5 rfl) ?_
  refine lv_iconst (v := (2 : Int32)) hx hb dL_law_1168 (by decide) ?_
  refine lv_iadd hx hb dL_law_1169 ?_
  refine sl_ld hx hb hX hbl hbA hS (j := i + 2) (by omega) hL (nI_add i 2) dL_law_1170 ?_
  refine lv_aload_n hx hb dL_law_1171 rfl (lv_at hl 1 rfl) ?_
  refine lv_iload hx hb dL_law_1172 (lv_at hl 5 rfl) ?_
  refine lv_iconst (v := (3 : Int32)) hx hb dL_law_1174 (by decide) ?_
  refine lv_iadd hx hb dL_law_1175 ?_
  refine sl_ld hx hb hX hbl hbA hS (j := i + 3) (by omega) hL (nI_add i 3) dL_law_1176 ?_
  obtain ⟨⟨v3, v4⟩, hc, hj⟩ := ja_bd hj
  try dsimp only at hj
  have hPc := hP.sub (ws' := (wM cI cJ g0 gr gl gw gs th rw mn at_ ml md_l wd md sm fr no)) [5, 6, 7, 8, 9] rfl
  have hDc := hD.sub (ws' := (wM cI cJ g0 gr gl gw gs th rw mn at_ ml md_l wd md sm fr no)) [5, 6, 7, 8, 9] (by decide) rfl
  have hFc := va_free (wc := (wM cI cJ g0 gr gl gw gs th rw mn at_ ml md_l wd md sm fr no)) hD hS hA [5, 6, 7, 8, 9] rfl
  refine va_calll (va_runV (As := [.int (xs (i + 1)), .int (xs (i + 2)), .int (xs (i + 3))]) (rest := []) ⟨hx, hb, hml, hown, hts⟩ (c_X2_first l dC dI cI cJ g0 gr gl gw gs H.size th rw mn at_ ml md_l wd md sm fr no (xs (i + 1)) (xs (i + 2)) (xs (i + 3)) _ hc) (cwV 3 hts gL_law_X2_first rfl rfl rfl (by decide +kernel) ⟨Nat.le_of_ble_eq_true rfl, Nat.le_of_ble_eq_true rfl⟩) ⟨fun a U g mk q => ⟨q.1, jPr.blind q.2⟩, va_recv hK hPc (ci := 2) (q0 := 0) rfl rfl, fun U hU hW => ⟨rfl, jPr.mk hU hW hPc hK hDc⟩⟩ rfl rfl hl.1 rfl (lv_room (Nat.le_of_ble_eq_true rfl)) dL_law_1177 ⟨by show _ ≤ 1043; omega, by show _ ≤ 17001; omega⟩) hS (fun q _ h => hFc q h) hFc (fun rr u t H1 locs ht hvm hw9 hB hz1 hk1 hS => ?_)
  have hw8 : v3 = rr := hw9.symm
  subst hw8
  obtain ⟨hP1, hK1, hD1⟩ := hB
  rw [ht] at hP1
  obtain ⟨hP, hD⟩ := va_join (wr := ([(b1, .inr (1, [.ref b0, .ref bq, .ref bf, .int ld])), (b0, .inr (0, [.ref bw, .int en, .int pl, .int cu])), (bw, .inl (cJ, 64, .inr (.inl w))), (bq, .inl (cJ, 100, .inr (.inl li))), (bf, .inl (cJ, 89, .inr (.inl fb))), (bo, .inl (cJ, 1, .inr (.inl v2)))] : va_W)) (w1 := (wM cI cJ g0 gr gl gw gs v4 rw mn at_ ml md_l wd md sm fr no)) hP hD [5, 6, 7, 8, 9] [0, 1, 2, 3, 4, 10] rfl rfl (by decide) (by decide) hk1 hFc hP1 hD1
  replace hP := hP.sub (ws' := (wL cI cJ b1 b0 bw bq bf g0 gr gl gw gs bo w en pl cu li ld fb v4 rw mn at_ ml md_l wd md sm fr no v2)) [0, 1, 2, 3, 4, 6, 7, 8, 9, 10, 5] rfl
  replace hD := hD.sub (ws' := (wL cI cJ b1 b0 bw bq bf g0 gr gl gw gs bo w en pl cu li ld fb v4 rw mn at_ ml md_l wd md sm fr no v2)) [0, 1, 2, 3, 4, 6, 7, 8, 9, 10, 5] (by decide) rfl
  clear hk1 hP1 hK1 hD1 hvm hz1 hPc hDc hFc
  generalize H1 = H at hP hS ⊢
  refine W.widen (k := 11 + (kk + 1)) (n := 8761 + 6 * (kk + 1)) (by omega) (by omega) ?_
  have hP : va_P (dC, dI) vwCl (wL cI cJ b1 b0 bw bq bf g0 gr gl gw gs bo w en pl cu li ld fb v4 rw mn at_ ml md_l wd md sm fr no v2) H := hP
  have hD : va_D A (wL cI cJ b1 b0 bw bq bf g0 gr gl gw gs bo w en pl cu li ld fb v4 rw mn at_ ml md_l wd md sm fr no v2) := hD
  refine lv_lstore (lv' := [(6, .long v3), (5, .int v1), (0, .ref b), (1, .ref b1), (2, .ref g0), (3, .ref bo), (4, .int (nI i))]) hx hb dL_law_1180 hl (by decide) rfl (fun ls hl => ?_)
  refine lv_aload_n hx hb dL_law_1182 rfl (lv_at hl 4 rfl) ?_
  obtain ⟨v5, hc, hj⟩ := ja_bd hj
  try dsimp only at hj
  have hPc := hP.sub (ws' := (wM cI cJ g0 gr gl gw gs v4 rw mn at_ ml md_l wd md sm fr no)) [5, 6, 7, 8, 9] rfl
  have hDc := hD.sub (ws' := (wM cI cJ g0 gr gl gw gs v4 rw mn at_ ml md_l wd md sm fr no)) [5, 6, 7, 8, 9] (by decide) rfl
  have hFc := va_free (wc := (wM cI cJ g0 gr gl gw gs v4 rw mn at_ ml md_l wd md sm fr no)) hD hS hA [5, 6, 7, 8, 9] rfl
  refine va_calli (va_runV (As := []) (rest := []) ⟨hx, hb, hml, hown, hts⟩ (c_X2_thrown l dC dI cI cJ g0 gr gl gw gs H.size v4 rw mn at_ ml md_l wd md sm fr no _ hc) (cwV 0 hts gL_law_X2_thrown rfl rfl rfl (by decide +kernel) ⟨Nat.le_of_ble_eq_true rfl, Nat.le_of_ble_eq_true rfl⟩) ⟨fun a U g mk q => ⟨q.1, jPr.blind q.2⟩, va_recv hK hPc (ci := 2) (q0 := 0) rfl rfl, fun U hU hW => ⟨rfl, jPr.mk hU hW hPc hK hDc⟩⟩ rfl rfl hl.1 rfl (lv_room (Nat.le_of_ble_eq_true rfl)) dL_law_1183 ⟨by show _ ≤ 1043; omega, by show _ ≤ 17001; omega⟩) hS (fun q _ h => hFc q h) hFc (fun rr u t H1 locs ht hvm hw9 hB hz1 hk1 hS => ?_)
  have hw8 : v5 = rr := hw9.symm
  subst hw8
  obtain ⟨hP1, hK1, hD1⟩ := hB
  rw [ht] at hP1
  obtain ⟨hP, hD⟩ := va_join (wr := ([(b1, .inr (1, [.ref b0, .ref bq, .ref bf, .int ld])), (b0, .inr (0, [.ref bw, .int en, .int pl, .int cu])), (bw, .inl (cJ, 64, .inr (.inl w))), (bq, .inl (cJ, 100, .inr (.inl li))), (bf, .inl (cJ, 89, .inr (.inl fb))), (bo, .inl (cJ, 1, .inr (.inl v2)))] : va_W)) (w1 := (wM cI cJ g0 gr gl gw gs v4 rw mn at_ ml md_l wd md sm fr no)) hP hD [5, 6, 7, 8, 9] [0, 1, 2, 3, 4, 10] rfl rfl (by decide) (by decide) hk1 hFc hP1 hD1
  replace hP := hP.sub (ws' := (wL cI cJ b1 b0 bw bq bf g0 gr gl gw gs bo w en pl cu li ld fb v4 rw mn at_ ml md_l wd md sm fr no v2)) [0, 1, 2, 3, 4, 6, 7, 8, 9, 10, 5] rfl
  replace hD := hD.sub (ws' := (wL cI cJ b1 b0 bw bq bf g0 gr gl gw gs bo w en pl cu li ld fb v4 rw mn at_ ml md_l wd md sm fr no v2)) [0, 1, 2, 3, 4, 6, 7, 8, 9, 10, 5] (by decide) rfl
  clear hk1 hP1 hK1 hD1 hvm hz1 hPc hDc hFc
  generalize H1 = H at hP hS ⊢
  refine W.widen (k := 11 + (kk + 1)) (n := 8761 + 6 * (kk + 1)) (by omega) (by omega) ?_
  have hP : va_P (dC, dI) vwCl (wL cI cJ b1 b0 bw bq bf g0 gr gl gw gs bo w en pl cu li ld fb v4 rw mn at_ ml md_l wd md sm fr no v2) H := hP
  have hD : va_D A (wL cI cJ b1 b0 bw bq bf g0 gr gl gw gs bo w en pl cu li ld fb v4 rw mn at_ ml md_l wd md sm fr no v2) := hD
  refine lv_iload hx hb dL_law_1186 (lv_at hl 1 rfl) ?_
  refine lv_icmp_eq (tgt := 1193) hx hb dL_law_1188 (by decide) (fun c6 => ?_) (fun c6 => ?_)
  · replace hj := ja_pos c6 hj
    refine lv_iload hx hb dL_law_1193 (lv_at hl 1 rfl) ?_
    refine lv_if_ne (tgt := 1209) hx hb dL_law_1195 (by decide) (fun c7 => ?_) (fun c7 => ?_)
    · replace hj := ja_neg c7 hj
      refine lv_goto (tgt := 1465) hx hb dL_law_1209 (by decide) ?_
      have hr9 : (w, en, pl, cu, li, ld, fb, v4, rw, mn, at_, ml, md_l, wd, md, sm, fr, no, v2) = r := Option.some.inj hj
      subst hr9
      exact hk H locs ls hP hD hS (lv_sub hl [2, 3, 4, 5, 6] rfl)
    · replace hj := ja_pos c7 hj
      refine lv_aload_n hx hb dL_law_1198 rfl (lv_at hl 5 rfl) ?_
      refine lv_iconst (v := (0 : Int32)) hx hb dL_law_1199 (by decide) ?_
      refine va_lald hx hb hK hP 10 1 rfl rfl (show vp_in (0 : Int32) 1 by unfold vp_in; decide) dL_law_1200 ?_
      refine lv_lload hx hb dL_law_1201 (lv_at hl 0 rfl) ?_
      refine W.lcmp hx hb dL_law_1203 ?_
      refine lv_if_eq (tgt := 1209) hx hb dL_law_1204 (by decide) (fun c8 => ?_) (fun c8 => ?_)
      · replace hj := ja_pos ((lg_cmp_eq (v2 (0 : Int32).toNatClampNeg) v3).mp c8) hj
        refine lv_goto (tgt := 1465) hx hb dL_law_1209 (by decide) ?_
        have hr9 : (w, en, pl, cu, li, ld, fb, v4, rw, mn, at_, ml, md_l, wd, md, sm, fr, no, v2) = r := Option.some.inj hj
        subst hr9
        exact hk H locs ls hP hD hS (lv_sub hl [2, 3, 4, 5, 6] rfl)
      · replace hj := ja_neg (fun h9 => c8 ((lg_cmp_eq (v2 (0 : Int32).toNatClampNeg) v3).mpr h9)) hj
        refine lv_iconst (v := (0 : Int32)) hx hb dL_law_1207 (by decide) ?_
        cases hj
  · replace hj := ja_neg c6 hj
    refine lv_iconst (v := (0 : Int32)) hx hb dL_law_1191 (by decide) ?_
    cases hj
def jC_18 (w : Nat → Int64) (en : Int32) (pl : Int32) (cu : Int32) (li : Nat → Int64) (ld : Int32) (fb : Nat → Int64) (th : Int32) (rw : Nat → Int32) (mn : Int32) (at_ : Int32) (ml : Nat → Int64) (md_l : Int32) (wd : Nat → Int32) (md : Int32) (sm : Nat → Int64) (fr : Int32) (no : Int32) (ou : Nat → Int64) (v_1 v_2 v_3 v_4 : Int32) : Option (jSt9) :=
  (j_L_begun fb ou v_1 v_2 v_3).bind fun (v1, v2) => ((j_X2_begun th sm v_1 v_2 v_3).bind fun (v3, v4) => ((j_X2_thrown v4).bind fun v5 => (if v5 = v1 then (if v1 = (0 : Int32) then (if (v2 (0 : Int32).toNatClampNeg) = v3 then (some (w, en, pl, cu, li, ld, fb, v4, rw, mn, at_, ml, md_l, wd, md, sm, fr, no, v2)) else (none)) else (some (w, en, pl, cu, li, ld, fb, v4, rw, mn, at_, ml, md_l, wd, md, sm, fr, no, v2))) else (none))))
set_option maxHeartbeats 4000000 in
set_option maxRecDepth 100000 in
theorem sl_18 {p : Program} {l : Launch} {e : Env} {s : State} {m : MethodId} {below : List Frame} {meth : Method} {c : Code} {dC : Nat → ClassId} {dI : Nat → Nat → Nat} {cI cJ : ClassId} {b L : Nat} {xs : Nat → Int32} (hlt : l.stackTraces = false) (C0 : sl_Cx p s m meth c b L xs) (hK : va_K (dC, dI) vwCl (jTy cI cJ) s) (hN : jNs s) (hXs : jXs (fun q : Nat => s.heap.size ≤ q) s) (hL : L ≤ 2560) (b1 : Nat) (b0 : Nat) (bw : Nat) (bq : Nat) (bf : Nat) (g0 : Nat) (gr : Nat) (gl : Nat) (gw : Nat) (gs : Nat) (bo : Nat) (w : Nat → Int64) (en : Int32) (pl : Int32) (cu : Int32) (li : Nat → Int64) (ld : Int32) (fb : Nat → Int64) (th : Int32) (rw : Nat → Int32) (mn : Int32) (at_ : Int32) (ml : Nat → Int64) (md_l : Int32) (wd : Nat → Int32) (md : Int32) (sm : Nat → Int64) (fr : Int32) (no : Int32) (ou : Nat → Int64) (i kk : Nat) (hi : i + 5 ≤ L) (hkk : kk < 512) (r : jSt9) (hj : jC_18 w en pl cu li ld fb th rw mn at_ ml md_l wd md sm fr no ou (xs (i + 1)) (xs (i + 2)) (xs (i + 3)) (xs (i + 4)) = some r)
    (hk : ∀ (H : Heap) (locs : List Loc) (ls : Array Slot), va_P (dC, dI) vwCl (wL cI cJ b1 b0 bw bq bf g0 gr gl gw gs bo r.1 r.2.1 r.2.2.1 r.2.2.2.1 r.2.2.2.2.1 r.2.2.2.2.2.1 r.2.2.2.2.2.2.1 r.2.2.2.2.2.2.2.1 r.2.2.2.2.2.2.2.2.1 r.2.2.2.2.2.2.2.2.2.1 r.2.2.2.2.2.2.2.2.2.2.1 r.2.2.2.2.2.2.2.2.2.2.2.1 r.2.2.2.2.2.2.2.2.2.2.2.2.1 r.2.2.2.2.2.2.2.2.2.2.2.2.2.1 r.2.2.2.2.2.2.2.2.2.2.2.2.2.2.1 r.2.2.2.2.2.2.2.2.2.2.2.2.2.2.2.1 r.2.2.2.2.2.2.2.2.2.2.2.2.2.2.2.2.1 r.2.2.2.2.2.2.2.2.2.2.2.2.2.2.2.2.2.1 r.2.2.2.2.2.2.2.2.2.2.2.2.2.2.2.2.2.2) H → va_D (fun q : Nat => s.heap.size ≤ q) (wL cI cJ b1 b0 bw bq bf g0 gr gl gw gs bo r.1 r.2.1 r.2.2.1 r.2.2.2.1 r.2.2.2.2.1 r.2.2.2.2.2.1 r.2.2.2.2.2.2.1 r.2.2.2.2.2.2.2.1 r.2.2.2.2.2.2.2.2.1 r.2.2.2.2.2.2.2.2.2.1 r.2.2.2.2.2.2.2.2.2.2.1 r.2.2.2.2.2.2.2.2.2.2.2.1 r.2.2.2.2.2.2.2.2.2.2.2.2.1 r.2.2.2.2.2.2.2.2.2.2.2.2.2.1 r.2.2.2.2.2.2.2.2.2.2.2.2.2.2.1 r.2.2.2.2.2.2.2.2.2.2.2.2.2.2.2.1 r.2.2.2.2.2.2.2.2.2.2.2.2.2.2.2.2.1 r.2.2.2.2.2.2.2.2.2.2.2.2.2.2.2.2.2.1 r.2.2.2.2.2.2.2.2.2.2.2.2.2.2.2.2.2.2) → va_S (fun q : Nat => s.heap.size ≤ q) s.heap H locs → lv_has ls 8 [(0, .ref b), (1, .ref b1), (2, .ref g0), (3, .ref bo), (4, .int (nI i))] → W p l e room_1 s m #[Value.ref b] below meth c H locs (11 + (kk + 1)) (8761 + 6 * (kk + 1)) (lw_Z below #[Value.ref b] s) (F0 m 1465 ls [])) :
    ∀ (H : Heap) (locs : List Loc) (ls : Array Slot), va_P (dC, dI) vwCl (wL cI cJ b1 b0 bw bq bf g0 gr gl gw gs bo w en pl cu li ld fb th rw mn at_ ml md_l wd md sm fr no ou) H → va_D (fun q : Nat => s.heap.size ≤ q) (wL cI cJ b1 b0 bw bq bf g0 gr gl gw gs bo w en pl cu li ld fb th rw mn at_ ml md_l wd md sm fr no ou) → va_S (fun q : Nat => s.heap.size ≤ q) s.heap H locs → lv_has ls 8 [(0, .ref b), (1, .ref b1), (2, .ref g0), (3, .ref bo), (4, .int (nI i))] → W p l e room_1 s m #[Value.ref b] below meth c H locs (11 + kk) (8761 + 6 * kk) (lw_Z below #[Value.ref b] s) (F0 m 1212 ls []) := by
  obtain ⟨hx, hb, hr, hml, hown, hts, hX, hbl, hlocks⟩ := id C0
  have hA : ∀ q : Nat, s.heap.size ≤ q → (fun q : Nat => s.heap.size ≤ q) q := fun _ h => h
  have hbA : ¬ (fun q : Nat => s.heap.size ≤ q) b := Nat.not_le.mpr hbl
  intro H locs ls hP hD hS hl
  generalize hAe : (fun q : Nat => s.heap.size ≤ q) = A at hA hbA hXs hD hS hk ⊢
  clear hAe
  unfold jC_18 at hj
  refine lv_aload_n hx hb dL_law_1212 rfl (lv_at hl 1 rfl) ?_
  refine lv_aload_n hx hb dL_law_1213 rfl (lv_at hl 0 rfl) ?_
  refine lv_iload hx hb dL_law_1214 (lv_at hl 4 rfl) ?_
  refine lv_iconst (v := (1 : Int32)) hx hb dL_law_1216 (by decide) ?_
  refine lv_iadd hx hb dL_law_1217 ?_
  refine sl_ld hx hb hX hbl hbA hS (j := i + 1) (by omega) hL (nI_add i 1) dL_law_1218 ?_
  refine lv_aload_n hx hb dL_law_1219 rfl (lv_at hl 0 rfl) ?_
  refine lv_iload hx hb dL_law_1220 (lv_at hl 4 rfl) ?_
  refine lv_iconst (v := (2 : Int32)) hx hb dL_law_1222 (by decide) ?_
  refine lv_iadd hx hb dL_law_1223 ?_
  refine sl_ld hx hb hX hbl hbA hS (j := i + 2) (by omega) hL (nI_add i 2) dL_law_1224 ?_
  refine lv_aload_n hx hb dL_law_1225 rfl (lv_at hl 0 rfl) ?_
  refine lv_iload hx hb dL_law_1226 (lv_at hl 4 rfl) ?_
  refine lv_iconst (v := (3 : Int32)) hx hb dL_law_1228 (by decide) ?_
  refine lv_iadd hx hb dL_law_1229 ?_
  refine sl_ld hx hb hX hbl hbA hS (j := i + 3) (by omega) hL (nI_add i 3) dL_law_1230 ?_
  refine lv_aload_n hx hb dL_law_1231 rfl (lv_at hl 3 rfl) ?_
  obtain ⟨⟨v1, v2⟩, hc, hj⟩ := ja_bd hj
  try dsimp only at hj
  have hPc := hP.sub (ws' := (wH cJ b1 b0 bw bq bf bo w en pl cu li ld fb ou)) [0, 1, 2, 3, 4, 10] rfl
  have hDc := hD.sub (ws' := (wH cJ b1 b0 bw bq bf bo w en pl cu li ld fb ou)) [0, 1, 2, 3, 4, 10] (by decide) rfl
  have hFc := va_free (wc := (wH cJ b1 b0 bw bq bf bo w en pl cu li ld fb ou)) hD hS hA [0, 1, 2, 3, 4, 10] rfl
  refine va_calli (vx_runSW (As := [.ref b1, .int (xs (i + 1)), .int (xs (i + 2)), .int (xs (i + 3)), .ref bo]) (rest := []) ⟨hx, hb, hml, hown, hts⟩ (c_L_begun l hlt dC dI cI cJ b1 b0 bw bq bf bo H.size w en pl cu li ld fb ou (xs (i + 1)) (xs (i + 2)) (xs (i + 3)) _ hc) (vx_cwSW 5 hts gL_law_L_begun rfl rfl rfl (by decide +kernel) ⟨Nat.le_of_ble_eq_true rfl, Nat.le_of_ble_eq_true rfl⟩) ⟨fun a U g mk q => ⟨q.1, jPr.blind q.2.1, jNs.blind q.2.2.1, jXs.blind q.2.2.2⟩, fun U hU hW => ⟨rfl, jPr.mk hU hW hPc hK hDc, jNs.warm hW hN, jXs.down hU hW hS hFc hXs⟩⟩ rfl rfl hl.1 rfl (lv_room (Nat.le_of_ble_eq_true rfl)) dL_law_1232 ⟨by show _ ≤ 1043; omega, by show _ ≤ 17001; omega⟩) hS (fun q _ h => hFc q h) hFc (fun rr u t H1 locs ht hvm hw9 hB hz1 hk1 hS => ?_)
  have hw8 : v1 = rr := hw9.symm
  subst hw8
  obtain ⟨hP1, hK1, hD1⟩ := hB
  rw [ht] at hP1
  obtain ⟨hP, hD⟩ := va_join (wr := ([(g0, .inr (2, [.int th, .ref gr, .int mn, .int at_, .ref gl, .int md_l, .ref gw, .int md, .ref gs, .int fr, .int no])), (gr, .inl (cI, 4096, .inl rw)), (gl, .inl (cJ, 100, .inr (.inl ml))), (gw, .inl (cI, 4200, .inl wd)), (gs, .inl (cJ, 92, .inr (.inl sm)))] : va_W)) (w1 := (wH cJ b1 b0 bw bq bf bo w en pl cu li ld fb v2)) hP hD [0, 1, 2, 3, 4, 10] [5, 6, 7, 8, 9] rfl rfl (by decide) (by decide) hk1 hFc hP1 hD1
  replace hP := hP.sub (ws' := (wL cI cJ b1 b0 bw bq bf g0 gr gl gw gs bo w en pl cu li ld fb th rw mn at_ ml md_l wd md sm fr no v2)) [5, 6, 7, 8, 9, 0, 1, 2, 3, 4, 10] rfl
  replace hD := hD.sub (ws' := (wL cI cJ b1 b0 bw bq bf g0 gr gl gw gs bo w en pl cu li ld fb th rw mn at_ ml md_l wd md sm fr no v2)) [5, 6, 7, 8, 9, 0, 1, 2, 3, 4, 10] (by decide) rfl
  clear hk1 hP1 hK1 hD1 hvm hz1 hPc hDc hFc
  generalize H1 = H at hP hS ⊢
  refine W.widen (k := 11 + (kk + 1)) (n := 8761 + 6 * (kk + 1)) (by omega) (by omega) ?_
  have hP : va_P (dC, dI) vwCl (wL cI cJ b1 b0 bw bq bf g0 gr gl gw gs bo w en pl cu li ld fb th rw mn at_ ml md_l wd md sm fr no v2) H := hP
  have hD : va_D A (wL cI cJ b1 b0 bw bq bf g0 gr gl gw gs bo w en pl cu li ld fb th rw mn at_ ml md_l wd md sm fr no v2) := hD
  refine lv_istore (lv' := [(5, .int v1), (0, .ref b), (1, .ref b1), (2, .ref g0), (3, .ref bo), (4, .int (nI i))]) hx hb dL_law_1235 hl (by decide) rfl (fun ls hl => ?_)
  refine lv_aload_n hx hb dL_law_1237 rfl (lv_at hl 3 rfl) ?_
  refine lv_aload_n hx hb dL_law_1238 rfl (lv_at hl 1 rfl) ?_
  refine lv_iload hx hb dL_law_1239 (lv_at hl 5 rfl) ?_
  refine lv_iconst (v := (1 : Int32)) hx hb dL_law_1241 (by decide) ?_
  refine lv_iadd hx hb dL_law_1242 ?_
  refine sl_ld hx hb hX hbl hbA hS (j := i + 1) (by omega) hL (nI_add i 1) dL_law_1243 ?_
  refine lv_aload_n hx hb dL_law_1244 rfl (lv_at hl 1 rfl) ?_
  refine lv_iload hx hb dL_law_1245 (lv_at hl 5 rfl) ?_
  refine lv_iconst (v := (2 : Int32)) hx hb dL_law_1247 (by decide) ?_
  refine lv_iadd hx hb dL_law_1248 ?_
  refine sl_ld hx hb hX hbl hbA hS (j := i + 2) (by omega) hL (nI_add i 2) dL_law_1249 ?_
  refine lv_aload_n hx hb dL_law_1250 rfl (lv_at hl 1 rfl) ?_
  refine lv_iload hx hb dL_law_1251 (lv_at hl 5 rfl) ?_
  refine lv_iconst (v := (3 : Int32)) hx hb dL_law_1253 (by decide) ?_
  refine lv_iadd hx hb dL_law_1254 ?_
  refine sl_ld hx hb hX hbl hbA hS (j := i + 3) (by omega) hL (nI_add i 3) dL_law_1255 ?_
  obtain ⟨⟨v3, v4⟩, hc, hj⟩ := ja_bd hj
  try dsimp only at hj
  have hPc := hP.sub (ws' := (wM cI cJ g0 gr gl gw gs th rw mn at_ ml md_l wd md sm fr no)) [5, 6, 7, 8, 9] rfl
  have hDc := hD.sub (ws' := (wM cI cJ g0 gr gl gw gs th rw mn at_ ml md_l wd md sm fr no)) [5, 6, 7, 8, 9] (by decide) rfl
  have hFc := va_free (wc := (wM cI cJ g0 gr gl gw gs th rw mn at_ ml md_l wd md sm fr no)) hD hS hA [5, 6, 7, 8, 9] rfl
  refine va_calll (va_runV (As := [.int (xs (i + 1)), .int (xs (i + 2)), .int (xs (i + 3))]) (rest := []) ⟨hx, hb, hml, hown, hts⟩ (c_X2_begun l dC dI cI cJ g0 gr gl gw gs H.size th rw mn at_ ml md_l wd md sm fr no (xs (i + 1)) (xs (i + 2)) (xs (i + 3)) _ hc) (cwV 3 hts gL_law_X2_begun rfl rfl rfl (by decide +kernel) ⟨Nat.le_of_ble_eq_true rfl, Nat.le_of_ble_eq_true rfl⟩) ⟨fun a U g mk q => ⟨q.1, jPr.blind q.2⟩, va_recv hK hPc (ci := 2) (q0 := 0) rfl rfl, fun U hU hW => ⟨rfl, jPr.mk hU hW hPc hK hDc⟩⟩ rfl rfl hl.1 rfl (lv_room (Nat.le_of_ble_eq_true rfl)) dL_law_1256 ⟨by show _ ≤ 1043; omega, by show _ ≤ 17001; omega⟩) hS (fun q _ h => hFc q h) hFc (fun rr u t H1 locs ht hvm hw9 hB hz1 hk1 hS => ?_)
  have hw8 : v3 = rr := hw9.symm
  subst hw8
  obtain ⟨hP1, hK1, hD1⟩ := hB
  rw [ht] at hP1
  obtain ⟨hP, hD⟩ := va_join (wr := ([(b1, .inr (1, [.ref b0, .ref bq, .ref bf, .int ld])), (b0, .inr (0, [.ref bw, .int en, .int pl, .int cu])), (bw, .inl (cJ, 64, .inr (.inl w))), (bq, .inl (cJ, 100, .inr (.inl li))), (bf, .inl (cJ, 89, .inr (.inl fb))), (bo, .inl (cJ, 1, .inr (.inl v2)))] : va_W)) (w1 := (wM cI cJ g0 gr gl gw gs v4 rw mn at_ ml md_l wd md sm fr no)) hP hD [5, 6, 7, 8, 9] [0, 1, 2, 3, 4, 10] rfl rfl (by decide) (by decide) hk1 hFc hP1 hD1
  replace hP := hP.sub (ws' := (wL cI cJ b1 b0 bw bq bf g0 gr gl gw gs bo w en pl cu li ld fb v4 rw mn at_ ml md_l wd md sm fr no v2)) [0, 1, 2, 3, 4, 6, 7, 8, 9, 10, 5] rfl
  replace hD := hD.sub (ws' := (wL cI cJ b1 b0 bw bq bf g0 gr gl gw gs bo w en pl cu li ld fb v4 rw mn at_ ml md_l wd md sm fr no v2)) [0, 1, 2, 3, 4, 6, 7, 8, 9, 10, 5] (by decide) rfl
  clear hk1 hP1 hK1 hD1 hvm hz1 hPc hDc hFc
  generalize H1 = H at hP hS ⊢
  refine W.widen (k := 11 + (kk + 1)) (n := 8761 + 6 * (kk + 1)) (by omega) (by omega) ?_
  have hP : va_P (dC, dI) vwCl (wL cI cJ b1 b0 bw bq bf g0 gr gl gw gs bo w en pl cu li ld fb v4 rw mn at_ ml md_l wd md sm fr no v2) H := hP
  have hD : va_D A (wL cI cJ b1 b0 bw bq bf g0 gr gl gw gs bo w en pl cu li ld fb v4 rw mn at_ ml md_l wd md sm fr no v2) := hD
  refine lv_lstore (lv' := [(6, .long v3), (5, .int v1), (0, .ref b), (1, .ref b1), (2, .ref g0), (3, .ref bo), (4, .int (nI i))]) hx hb dL_law_1259 hl (by decide) rfl (fun ls hl => ?_)
  refine lv_aload_n hx hb dL_law_1261 rfl (lv_at hl 4 rfl) ?_
  obtain ⟨v5, hc, hj⟩ := ja_bd hj
  try dsimp only at hj
  have hPc := hP.sub (ws' := (wM cI cJ g0 gr gl gw gs v4 rw mn at_ ml md_l wd md sm fr no)) [5, 6, 7, 8, 9] rfl
  have hDc := hD.sub (ws' := (wM cI cJ g0 gr gl gw gs v4 rw mn at_ ml md_l wd md sm fr no)) [5, 6, 7, 8, 9] (by decide) rfl
  have hFc := va_free (wc := (wM cI cJ g0 gr gl gw gs v4 rw mn at_ ml md_l wd md sm fr no)) hD hS hA [5, 6, 7, 8, 9] rfl
  refine va_calli (va_runV (As := []) (rest := []) ⟨hx, hb, hml, hown, hts⟩ (c_X2_thrown l dC dI cI cJ g0 gr gl gw gs H.size v4 rw mn at_ ml md_l wd md sm fr no _ hc) (cwV 0 hts gL_law_X2_thrown rfl rfl rfl (by decide +kernel) ⟨Nat.le_of_ble_eq_true rfl, Nat.le_of_ble_eq_true rfl⟩) ⟨fun a U g mk q => ⟨q.1, jPr.blind q.2⟩, va_recv hK hPc (ci := 2) (q0 := 0) rfl rfl, fun U hU hW => ⟨rfl, jPr.mk hU hW hPc hK hDc⟩⟩ rfl rfl hl.1 rfl (lv_room (Nat.le_of_ble_eq_true rfl)) dL_law_1262 ⟨by show _ ≤ 1043; omega, by show _ ≤ 17001; omega⟩) hS (fun q _ h => hFc q h) hFc (fun rr u t H1 locs ht hvm hw9 hB hz1 hk1 hS => ?_)
  have hw8 : v5 = rr := hw9.symm
  subst hw8
  obtain ⟨hP1, hK1, hD1⟩ := hB
  rw [ht] at hP1
  obtain ⟨hP, hD⟩ := va_join (wr := ([(b1, .inr (1, [.ref b0, .ref bq, .ref bf, .int ld])), (b0, .inr (0, [.ref bw, .int en, .int pl, .int cu])), (bw, .inl (cJ, 64, .inr (.inl w))), (bq, .inl (cJ, 100, .inr (.inl li))), (bf, .inl (cJ, 89, .inr (.inl fb))), (bo, .inl (cJ, 1, .inr (.inl v2)))] : va_W)) (w1 := (wM cI cJ g0 gr gl gw gs v4 rw mn at_ ml md_l wd md sm fr no)) hP hD [5, 6, 7, 8, 9] [0, 1, 2, 3, 4, 10] rfl rfl (by decide) (by decide) hk1 hFc hP1 hD1
  replace hP := hP.sub (ws' := (wL cI cJ b1 b0 bw bq bf g0 gr gl gw gs bo w en pl cu li ld fb v4 rw mn at_ ml md_l wd md sm fr no v2)) [0, 1, 2, 3, 4, 6, 7, 8, 9, 10, 5] rfl
  replace hD := hD.sub (ws' := (wL cI cJ b1 b0 bw bq bf g0 gr gl gw gs bo w en pl cu li ld fb v4 rw mn at_ ml md_l wd md sm fr no v2)) [0, 1, 2, 3, 4, 6, 7, 8, 9, 10, 5] (by decide) rfl
  clear hk1 hP1 hK1 hD1 hvm hz1 hPc hDc hFc
  generalize H1 = H at hP hS ⊢
  refine W.widen (k := 11 + (kk + 1)) (n := 8761 + 6 * (kk + 1)) (by omega) (by omega) ?_
  have hP : va_P (dC, dI) vwCl (wL cI cJ b1 b0 bw bq bf g0 gr gl gw gs bo w en pl cu li ld fb v4 rw mn at_ ml md_l wd md sm fr no v2) H := hP
  have hD : va_D A (wL cI cJ b1 b0 bw bq bf g0 gr gl gw gs bo w en pl cu li ld fb v4 rw mn at_ ml md_l wd md sm fr no v2) := hD
  refine lv_iload hx hb dL_law_1265 (lv_at hl 1 rfl) ?_
  refine lv_icmp_eq (tgt := 1272) hx hb dL_law_1267 (by decide) (fun c6 => ?_) (fun c6 => ?_)
  · replace hj := ja_pos c6 hj
    refine lv_iload hx hb dL_law_1272 (lv_at hl 1 rfl) ?_
    refine lv_if_ne (tgt := 1288) hx hb dL_law_1274 (by decide) (fun c7 => ?_) (fun c7 => ?_)
    · replace hj := ja_neg c7 hj
      refine lv_goto (tgt := 1465) hx hb dL_law_1288 (by decide) ?_
      have hr9 : (w, en, pl, cu, li, ld, fb, v4, rw, mn, at_, ml, md_l, wd, md, sm, fr, no, v2) = r := Option.some.inj hj
      subst hr9
      exact hk H locs ls hP hD hS (lv_sub hl [2, 3, 4, 5, 6] rfl)
    · replace hj := ja_pos c7 hj
      refine lv_aload_n hx hb dL_law_1277 rfl (lv_at hl 5 rfl) ?_
      refine lv_iconst (v := (0 : Int32)) hx hb dL_law_1278 (by decide) ?_
      refine va_lald hx hb hK hP 10 1 rfl rfl (show vp_in (0 : Int32) 1 by unfold vp_in; decide) dL_law_1279 ?_
      refine lv_lload hx hb dL_law_1280 (lv_at hl 0 rfl) ?_
      refine W.lcmp hx hb dL_law_1282 ?_
      refine lv_if_eq (tgt := 1288) hx hb dL_law_1283 (by decide) (fun c8 => ?_) (fun c8 => ?_)
      · replace hj := ja_pos ((lg_cmp_eq (v2 (0 : Int32).toNatClampNeg) v3).mp c8) hj
        refine lv_goto (tgt := 1465) hx hb dL_law_1288 (by decide) ?_
        have hr9 : (w, en, pl, cu, li, ld, fb, v4, rw, mn, at_, ml, md_l, wd, md, sm, fr, no, v2) = r := Option.some.inj hj
        subst hr9
        exact hk H locs ls hP hD hS (lv_sub hl [2, 3, 4, 5, 6] rfl)
      · replace hj := ja_neg (fun h9 => c8 ((lg_cmp_eq (v2 (0 : Int32).toNatClampNeg) v3).mpr h9)) hj
        refine lv_iconst (v := (0 : Int32)) hx hb dL_law_1286 (by decide) ?_
        cases hj
  · replace hj := ja_neg c6 hj
    refine lv_iconst (v := (0 : Int32)) hx hb dL_law_1270 (by decide) ?_
    cases hj
def jC_19 (w : Nat → Int64) (en : Int32) (pl : Int32) (cu : Int32) (li : Nat → Int64) (ld : Int32) (fb : Nat → Int64) (th : Int32) (rw : Nat → Int32) (mn : Int32) (at_ : Int32) (ml : Nat → Int64) (md_l : Int32) (wd : Nat → Int32) (md : Int32) (sm : Nat → Int64) (fr : Int32) (no : Int32) (ou : Nat → Int64) (v_1 v_2 v_3 v_4 : Int32) : Option (jSt9) :=
  (j_L_fold ou (((v_1.toInt64) <<< ((32 : Int32).toInt64 &&& 63)) ||| ((v_2.toInt64) &&& (4294967295 : Int64)))).bind fun (v1, v2) => ((j_X2_fold th (((v_1.toInt64) <<< ((32 : Int32).toInt64 &&& 63)) ||| ((v_2.toInt64) &&& (4294967295 : Int64)))).bind fun (v3, v4) => ((j_X2_thrown v4).bind fun v5 => (if v5 = v1 then (if v1 = (0 : Int32) then (if (v2 (0 : Int32).toNatClampNeg) = v3 then (some (w, en, pl, cu, li, ld, fb, v4, rw, mn, at_, ml, md_l, wd, md, sm, fr, no, v2)) else (none)) else (some (w, en, pl, cu, li, ld, fb, v4, rw, mn, at_, ml, md_l, wd, md, sm, fr, no, v2))) else (none))))
set_option maxHeartbeats 4000000 in
set_option maxRecDepth 100000 in
theorem sl_19 {p : Program} {l : Launch} {e : Env} {s : State} {m : MethodId} {below : List Frame} {meth : Method} {c : Code} {dC : Nat → ClassId} {dI : Nat → Nat → Nat} {cI cJ : ClassId} {b L : Nat} {xs : Nat → Int32} (hlt : l.stackTraces = false) (C0 : sl_Cx p s m meth c b L xs) (hK : va_K (dC, dI) vwCl (jTy cI cJ) s) (hN : jNs s) (hXs : jXs (fun q : Nat => s.heap.size ≤ q) s) (hL : L ≤ 2560) (b1 : Nat) (b0 : Nat) (bw : Nat) (bq : Nat) (bf : Nat) (g0 : Nat) (gr : Nat) (gl : Nat) (gw : Nat) (gs : Nat) (bo : Nat) (w : Nat → Int64) (en : Int32) (pl : Int32) (cu : Int32) (li : Nat → Int64) (ld : Int32) (fb : Nat → Int64) (th : Int32) (rw : Nat → Int32) (mn : Int32) (at_ : Int32) (ml : Nat → Int64) (md_l : Int32) (wd : Nat → Int32) (md : Int32) (sm : Nat → Int64) (fr : Int32) (no : Int32) (ou : Nat → Int64) (i kk : Nat) (hi : i + 5 ≤ L) (hkk : kk < 512) (r : jSt9) (hj : jC_19 w en pl cu li ld fb th rw mn at_ ml md_l wd md sm fr no ou (xs (i + 1)) (xs (i + 2)) (xs (i + 3)) (xs (i + 4)) = some r)
    (hk : ∀ (H : Heap) (locs : List Loc) (ls : Array Slot), va_P (dC, dI) vwCl (wL cI cJ b1 b0 bw bq bf g0 gr gl gw gs bo r.1 r.2.1 r.2.2.1 r.2.2.2.1 r.2.2.2.2.1 r.2.2.2.2.2.1 r.2.2.2.2.2.2.1 r.2.2.2.2.2.2.2.1 r.2.2.2.2.2.2.2.2.1 r.2.2.2.2.2.2.2.2.2.1 r.2.2.2.2.2.2.2.2.2.2.1 r.2.2.2.2.2.2.2.2.2.2.2.1 r.2.2.2.2.2.2.2.2.2.2.2.2.1 r.2.2.2.2.2.2.2.2.2.2.2.2.2.1 r.2.2.2.2.2.2.2.2.2.2.2.2.2.2.1 r.2.2.2.2.2.2.2.2.2.2.2.2.2.2.2.1 r.2.2.2.2.2.2.2.2.2.2.2.2.2.2.2.2.1 r.2.2.2.2.2.2.2.2.2.2.2.2.2.2.2.2.2.1 r.2.2.2.2.2.2.2.2.2.2.2.2.2.2.2.2.2.2) H → va_D (fun q : Nat => s.heap.size ≤ q) (wL cI cJ b1 b0 bw bq bf g0 gr gl gw gs bo r.1 r.2.1 r.2.2.1 r.2.2.2.1 r.2.2.2.2.1 r.2.2.2.2.2.1 r.2.2.2.2.2.2.1 r.2.2.2.2.2.2.2.1 r.2.2.2.2.2.2.2.2.1 r.2.2.2.2.2.2.2.2.2.1 r.2.2.2.2.2.2.2.2.2.2.1 r.2.2.2.2.2.2.2.2.2.2.2.1 r.2.2.2.2.2.2.2.2.2.2.2.2.1 r.2.2.2.2.2.2.2.2.2.2.2.2.2.1 r.2.2.2.2.2.2.2.2.2.2.2.2.2.2.1 r.2.2.2.2.2.2.2.2.2.2.2.2.2.2.2.1 r.2.2.2.2.2.2.2.2.2.2.2.2.2.2.2.2.1 r.2.2.2.2.2.2.2.2.2.2.2.2.2.2.2.2.2.1 r.2.2.2.2.2.2.2.2.2.2.2.2.2.2.2.2.2.2) → va_S (fun q : Nat => s.heap.size ≤ q) s.heap H locs → lv_has ls 8 [(0, .ref b), (1, .ref b1), (2, .ref g0), (3, .ref bo), (4, .int (nI i))] → W p l e room_1 s m #[Value.ref b] below meth c H locs (11 + (kk + 1)) (8761 + 6 * (kk + 1)) (lw_Z below #[Value.ref b] s) (F0 m 1465 ls [])) :
    ∀ (H : Heap) (locs : List Loc) (ls : Array Slot), va_P (dC, dI) vwCl (wL cI cJ b1 b0 bw bq bf g0 gr gl gw gs bo w en pl cu li ld fb th rw mn at_ ml md_l wd md sm fr no ou) H → va_D (fun q : Nat => s.heap.size ≤ q) (wL cI cJ b1 b0 bw bq bf g0 gr gl gw gs bo w en pl cu li ld fb th rw mn at_ ml md_l wd md sm fr no ou) → va_S (fun q : Nat => s.heap.size ≤ q) s.heap H locs → lv_has ls 8 [(0, .ref b), (1, .ref b1), (2, .ref g0), (3, .ref bo), (4, .int (nI i))] → W p l e room_1 s m #[Value.ref b] below meth c H locs (11 + kk) (8761 + 6 * kk) (lw_Z below #[Value.ref b] s) (F0 m 1291 ls []) := by
  obtain ⟨hx, hb, hr, hml, hown, hts, hX, hbl, hlocks⟩ := id C0
  have hA : ∀ q : Nat, s.heap.size ≤ q → (fun q : Nat => s.heap.size ≤ q) q := fun _ h => h
  have hbA : ¬ (fun q : Nat => s.heap.size ≤ q) b := Nat.not_le.mpr hbl
  intro H locs ls hP hD hS hl
  generalize hAe : (fun q : Nat => s.heap.size ≤ q) = A at hA hbA hXs hD hS hk ⊢
  clear hAe
  unfold jC_19 at hj
  refine lv_aload_n hx hb dL_law_1291 rfl (lv_at hl 1 rfl) ?_
  refine lv_aload_n hx hb dL_law_1292 rfl (lv_at hl 0 rfl) ?_
  refine lv_iload hx hb dL_law_1293 (lv_at hl 4 rfl) ?_
  refine lv_iconst (v := (1 : Int32)) hx hb dL_law_1295 (by decide) ?_
  refine lv_iadd hx hb dL_law_1296 ?_
  refine sl_ld hx hb hX hbl hbA hS (j := i + 1) (by omega) hL (nI_add i 1) dL_law_1297 ?_
  refine lv_i2l hx hb dL_law_1298 rfl ?_
  refine lv_bipush (v := (32 : Int32)) hx hb dL_law_1299 (by decide) ?_
  refine lv_lshl hx hb dL_law_1301 rfl ?_
  refine lv_aload_n hx hb dL_law_1302 rfl (lv_at hl 0 rfl) ?_
  refine lv_iload hx hb dL_law_1303 (lv_at hl 4 rfl) ?_
  refine lv_iconst (v := (2 : Int32)) hx hb dL_law_1305 (by decide) ?_
  refine lv_iadd hx hb dL_law_1306 ?_
  refine sl_ld hx hb hX hbl hbA hS (j := i + 2) (by omega) hL (nI_add i 2) dL_law_1307 ?_
  refine lv_i2l hx hb dL_law_1308 rfl ?_
  refine lv_ldc2 (v := (4294967295 : Int64)) hx hb hown (hts (.constantLong RL 75 (4294967295)) (by decide +kernel)) dL_law_1309 ?_
  refine lv_land hx hb dL_law_1312 ?_
  refine lv_lor hx hb dL_law_1313 ?_
  refine lv_aload_n hx hb dL_law_1314 rfl (lv_at hl 3 rfl) ?_
  obtain ⟨⟨v1, v2⟩, hc, hj⟩ := ja_bd hj
  try dsimp only at hj
  have hPc := hP.sub (ws' := (wH cJ b1 b0 bw bq bf bo w en pl cu li ld fb ou)) [0, 1, 2, 3, 4, 10] rfl
  have hDc := hD.sub (ws' := (wH cJ b1 b0 bw bq bf bo w en pl cu li ld fb ou)) [0, 1, 2, 3, 4, 10] (by decide) rfl
  have hFc := va_free (wc := (wH cJ b1 b0 bw bq bf bo w en pl cu li ld fb ou)) hD hS hA [0, 1, 2, 3, 4, 10] rfl
  refine va_calli (vx_runSW (As := [.ref b1, .long ((((xs (i + 1)).toInt64) <<< ((32 : Int32).toInt64 &&& 63)) ||| (((xs (i + 2)).toInt64) &&& (4294967295 : Int64))), .ref bo]) (rest := []) ⟨hx, hb, hml, hown, hts⟩ (c_L_fold l hlt dC dI cI cJ b1 b0 bw bq bf bo H.size w en pl cu li ld fb ou ((((xs (i + 1)).toInt64) <<< ((32 : Int32).toInt64 &&& 63)) ||| (((xs (i + 2)).toInt64) &&& (4294967295 : Int64))) _ hc) (vx_cwSW 3 hts gL_law_L_fold rfl rfl rfl (by decide +kernel) ⟨Nat.le_of_ble_eq_true rfl, Nat.le_of_ble_eq_true rfl⟩) ⟨fun a U g mk q => ⟨q.1, jPr.blind q.2.1, jNs.blind q.2.2.1, jXs.blind q.2.2.2⟩, fun U hU hW => ⟨rfl, jPr.mk hU hW hPc hK hDc, jNs.warm hW hN, jXs.down hU hW hS hFc hXs⟩⟩ rfl rfl hl.1 rfl (lv_room (Nat.le_of_ble_eq_true rfl)) dL_law_1315 ⟨by show _ ≤ 1043; omega, by show _ ≤ 17001; omega⟩) hS (fun q _ h => hFc q h) hFc (fun rr u t H1 locs ht hvm hw9 hB hz1 hk1 hS => ?_)
  have hw8 : v1 = rr := hw9.symm
  subst hw8
  obtain ⟨hP1, hK1, hD1⟩ := hB
  rw [ht] at hP1
  obtain ⟨hP, hD⟩ := va_join (wr := ([(g0, .inr (2, [.int th, .ref gr, .int mn, .int at_, .ref gl, .int md_l, .ref gw, .int md, .ref gs, .int fr, .int no])), (gr, .inl (cI, 4096, .inl rw)), (gl, .inl (cJ, 100, .inr (.inl ml))), (gw, .inl (cI, 4200, .inl wd)), (gs, .inl (cJ, 92, .inr (.inl sm)))] : va_W)) (w1 := (wH cJ b1 b0 bw bq bf bo w en pl cu li ld fb v2)) hP hD [0, 1, 2, 3, 4, 10] [5, 6, 7, 8, 9] rfl rfl (by decide) (by decide) hk1 hFc hP1 hD1
  replace hP := hP.sub (ws' := (wL cI cJ b1 b0 bw bq bf g0 gr gl gw gs bo w en pl cu li ld fb th rw mn at_ ml md_l wd md sm fr no v2)) [5, 6, 7, 8, 9, 0, 1, 2, 3, 4, 10] rfl
  replace hD := hD.sub (ws' := (wL cI cJ b1 b0 bw bq bf g0 gr gl gw gs bo w en pl cu li ld fb th rw mn at_ ml md_l wd md sm fr no v2)) [5, 6, 7, 8, 9, 0, 1, 2, 3, 4, 10] (by decide) rfl
  clear hk1 hP1 hK1 hD1 hvm hz1 hPc hDc hFc
  generalize H1 = H at hP hS ⊢
  refine W.widen (k := 11 + (kk + 1)) (n := 8761 + 6 * (kk + 1)) (by omega) (by omega) ?_
  have hP : va_P (dC, dI) vwCl (wL cI cJ b1 b0 bw bq bf g0 gr gl gw gs bo w en pl cu li ld fb th rw mn at_ ml md_l wd md sm fr no v2) H := hP
  have hD : va_D A (wL cI cJ b1 b0 bw bq bf g0 gr gl gw gs bo w en pl cu li ld fb th rw mn at_ ml md_l wd md sm fr no v2) := hD
  refine lv_istore (lv' := [(5, .int v1), (0, .ref b), (1, .ref b1), (2, .ref g0), (3, .ref bo), (4, .int (nI i))]) hx hb dL_law_1318 hl (by decide) rfl (fun ls hl => ?_)
  refine lv_aload_n hx hb dL_law_1320 rfl (lv_at hl 3 rfl) ?_
  refine lv_aload_n hx hb dL_law_1321 rfl (lv_at hl 1 rfl) ?_
  refine lv_iload hx hb dL_law_1322 (lv_at hl 5 rfl) ?_
  refine lv_iconst (v := (1 : Int32)) hx hb dL_law_1324 (by decide) ?_
  refine lv_iadd hx hb dL_law_1325 ?_
  refine sl_ld hx hb hX hbl hbA hS (j := i + 1) (by omega) hL (nI_add i 1) dL_law_1326 ?_
  refine lv_i2l hx hb dL_law_1327 rfl ?_
  refine lv_bipush (v := (32 : Int32)) hx hb dL_law_1328 (by decide) ?_
  refine lv_lshl hx hb dL_law_1330 rfl ?_
  refine lv_aload_n hx hb dL_law_1331 rfl (lv_at hl 1 rfl) ?_
  refine lv_iload hx hb dL_law_1332 (lv_at hl 5 rfl) ?_
  refine lv_iconst (v := (2 : Int32)) hx hb dL_law_1334 (by decide) ?_
  refine lv_iadd hx hb dL_law_1335 ?_
  refine sl_ld hx hb hX hbl hbA hS (j := i + 2) (by omega) hL (nI_add i 2) dL_law_1336 ?_
  refine lv_i2l hx hb dL_law_1337 rfl ?_
  refine lv_ldc2 (v := (4294967295 : Int64)) hx hb hown (hts (.constantLong RL 75 (4294967295)) (by decide +kernel)) dL_law_1338 ?_
  refine lv_land hx hb dL_law_1341 ?_
  refine lv_lor hx hb dL_law_1342 ?_
  obtain ⟨⟨v3, v4⟩, hc, hj⟩ := ja_bd hj
  try dsimp only at hj
  have hPc := hP.sub (ws' := (wM cI cJ g0 gr gl gw gs th rw mn at_ ml md_l wd md sm fr no)) [5, 6, 7, 8, 9] rfl
  have hDc := hD.sub (ws' := (wM cI cJ g0 gr gl gw gs th rw mn at_ ml md_l wd md sm fr no)) [5, 6, 7, 8, 9] (by decide) rfl
  have hFc := va_free (wc := (wM cI cJ g0 gr gl gw gs th rw mn at_ ml md_l wd md sm fr no)) hD hS hA [5, 6, 7, 8, 9] rfl
  refine va_calll (va_runV (As := [.long ((((xs (i + 1)).toInt64) <<< ((32 : Int32).toInt64 &&& 63)) ||| (((xs (i + 2)).toInt64) &&& (4294967295 : Int64)))]) (rest := []) ⟨hx, hb, hml, hown, hts⟩ (c_X2_fold l dC dI cI cJ g0 gr gl gw gs H.size th rw mn at_ ml md_l wd md sm fr no ((((xs (i + 1)).toInt64) <<< ((32 : Int32).toInt64 &&& 63)) ||| (((xs (i + 2)).toInt64) &&& (4294967295 : Int64))) _ hc) (cwV 1 hts gL_law_X2_fold rfl rfl rfl (by decide +kernel) ⟨Nat.le_of_ble_eq_true rfl, Nat.le_of_ble_eq_true rfl⟩) ⟨fun a U g mk q => ⟨q.1, jPr.blind q.2⟩, va_recv hK hPc (ci := 2) (q0 := 0) rfl rfl, fun U hU hW => ⟨rfl, jPr.mk hU hW hPc hK hDc⟩⟩ rfl rfl hl.1 rfl (lv_room (Nat.le_of_ble_eq_true rfl)) dL_law_1343 ⟨by show _ ≤ 1043; omega, by show _ ≤ 17001; omega⟩) hS (fun q _ h => hFc q h) hFc (fun rr u t H1 locs ht hvm hw9 hB hz1 hk1 hS => ?_)
  have hw8 : v3 = rr := hw9.symm
  subst hw8
  obtain ⟨hP1, hK1, hD1⟩ := hB
  rw [ht] at hP1
  obtain ⟨hP, hD⟩ := va_join (wr := ([(b1, .inr (1, [.ref b0, .ref bq, .ref bf, .int ld])), (b0, .inr (0, [.ref bw, .int en, .int pl, .int cu])), (bw, .inl (cJ, 64, .inr (.inl w))), (bq, .inl (cJ, 100, .inr (.inl li))), (bf, .inl (cJ, 89, .inr (.inl fb))), (bo, .inl (cJ, 1, .inr (.inl v2)))] : va_W)) (w1 := (wM cI cJ g0 gr gl gw gs v4 rw mn at_ ml md_l wd md sm fr no)) hP hD [5, 6, 7, 8, 9] [0, 1, 2, 3, 4, 10] rfl rfl (by decide) (by decide) hk1 hFc hP1 hD1
  replace hP := hP.sub (ws' := (wL cI cJ b1 b0 bw bq bf g0 gr gl gw gs bo w en pl cu li ld fb v4 rw mn at_ ml md_l wd md sm fr no v2)) [0, 1, 2, 3, 4, 6, 7, 8, 9, 10, 5] rfl
  replace hD := hD.sub (ws' := (wL cI cJ b1 b0 bw bq bf g0 gr gl gw gs bo w en pl cu li ld fb v4 rw mn at_ ml md_l wd md sm fr no v2)) [0, 1, 2, 3, 4, 6, 7, 8, 9, 10, 5] (by decide) rfl
  clear hk1 hP1 hK1 hD1 hvm hz1 hPc hDc hFc
  generalize H1 = H at hP hS ⊢
  refine W.widen (k := 11 + (kk + 1)) (n := 8761 + 6 * (kk + 1)) (by omega) (by omega) ?_
  have hP : va_P (dC, dI) vwCl (wL cI cJ b1 b0 bw bq bf g0 gr gl gw gs bo w en pl cu li ld fb v4 rw mn at_ ml md_l wd md sm fr no v2) H := hP
  have hD : va_D A (wL cI cJ b1 b0 bw bq bf g0 gr gl gw gs bo w en pl cu li ld fb v4 rw mn at_ ml md_l wd md sm fr no v2) := hD
  refine lv_lstore (lv' := [(6, .long v3), (5, .int v1), (0, .ref b), (1, .ref b1), (2, .ref g0), (3, .ref bo), (4, .int (nI i))]) hx hb dL_law_1346 hl (by decide) rfl (fun ls hl => ?_)
  refine lv_aload_n hx hb dL_law_1348 rfl (lv_at hl 4 rfl) ?_
  obtain ⟨v5, hc, hj⟩ := ja_bd hj
  try dsimp only at hj
  have hPc := hP.sub (ws' := (wM cI cJ g0 gr gl gw gs v4 rw mn at_ ml md_l wd md sm fr no)) [5, 6, 7, 8, 9] rfl
  have hDc := hD.sub (ws' := (wM cI cJ g0 gr gl gw gs v4 rw mn at_ ml md_l wd md sm fr no)) [5, 6, 7, 8, 9] (by decide) rfl
  have hFc := va_free (wc := (wM cI cJ g0 gr gl gw gs v4 rw mn at_ ml md_l wd md sm fr no)) hD hS hA [5, 6, 7, 8, 9] rfl
  refine va_calli (va_runV (As := []) (rest := []) ⟨hx, hb, hml, hown, hts⟩ (c_X2_thrown l dC dI cI cJ g0 gr gl gw gs H.size v4 rw mn at_ ml md_l wd md sm fr no _ hc) (cwV 0 hts gL_law_X2_thrown rfl rfl rfl (by decide +kernel) ⟨Nat.le_of_ble_eq_true rfl, Nat.le_of_ble_eq_true rfl⟩) ⟨fun a U g mk q => ⟨q.1, jPr.blind q.2⟩, va_recv hK hPc (ci := 2) (q0 := 0) rfl rfl, fun U hU hW => ⟨rfl, jPr.mk hU hW hPc hK hDc⟩⟩ rfl rfl hl.1 rfl (lv_room (Nat.le_of_ble_eq_true rfl)) dL_law_1349 ⟨by show _ ≤ 1043; omega, by show _ ≤ 17001; omega⟩) hS (fun q _ h => hFc q h) hFc (fun rr u t H1 locs ht hvm hw9 hB hz1 hk1 hS => ?_)
  have hw8 : v5 = rr := hw9.symm
  subst hw8
  obtain ⟨hP1, hK1, hD1⟩ := hB
  rw [ht] at hP1
  obtain ⟨hP, hD⟩ := va_join (wr := ([(b1, .inr (1, [.ref b0, .ref bq, .ref bf, .int ld])), (b0, .inr (0, [.ref bw, .int en, .int pl, .int cu])), (bw, .inl (cJ, 64, .inr (.inl w))), (bq, .inl (cJ, 100, .inr (.inl li))), (bf, .inl (cJ, 89, .inr (.inl fb))), (bo, .inl (cJ, 1, .inr (.inl v2)))] : va_W)) (w1 := (wM cI cJ g0 gr gl gw gs v4 rw mn at_ ml md_l wd md sm fr no)) hP hD [5, 6, 7, 8, 9] [0, 1, 2, 3, 4, 10] rfl rfl (by decide) (by decide) hk1 hFc hP1 hD1
  replace hP := hP.sub (ws' := (wL cI cJ b1 b0 bw bq bf g0 gr gl gw gs bo w en pl cu li ld fb v4 rw mn at_ ml md_l wd md sm fr no v2)) [0, 1, 2, 3, 4, 6, 7, 8, 9, 10, 5] rfl
  replace hD := hD.sub (ws' := (wL cI cJ b1 b0 bw bq bf g0 gr gl gw gs bo w en pl cu li ld fb v4 rw mn at_ ml md_l wd md sm fr no v2)) [0, 1, 2, 3, 4, 6, 7, 8, 9, 10, 5] (by decide) rfl
  clear hk1 hP1 hK1 hD1 hvm hz1 hPc hDc hFc
  generalize H1 = H at hP hS ⊢
  refine W.widen (k := 11 + (kk + 1)) (n := 8761 + 6 * (kk + 1)) (by omega) (by omega) ?_
  have hP : va_P (dC, dI) vwCl (wL cI cJ b1 b0 bw bq bf g0 gr gl gw gs bo w en pl cu li ld fb v4 rw mn at_ ml md_l wd md sm fr no v2) H := hP
  have hD : va_D A (wL cI cJ b1 b0 bw bq bf g0 gr gl gw gs bo w en pl cu li ld fb v4 rw mn at_ ml md_l wd md sm fr no v2) := hD
  refine lv_iload hx hb dL_law_1352 (lv_at hl 1 rfl) ?_
  refine lv_icmp_eq (tgt := 1359) hx hb dL_law_1354 (by decide) (fun c6 => ?_) (fun c6 => ?_)
  · replace hj := ja_pos c6 hj
    refine lv_iload hx hb dL_law_1359 (lv_at hl 1 rfl) ?_
    refine lv_if_ne (tgt := 1375) hx hb dL_law_1361 (by decide) (fun c7 => ?_) (fun c7 => ?_)
    · replace hj := ja_neg c7 hj
      refine lv_goto (tgt := 1465) hx hb dL_law_1375 (by decide) ?_
      have hr9 : (w, en, pl, cu, li, ld, fb, v4, rw, mn, at_, ml, md_l, wd, md, sm, fr, no, v2) = r := Option.some.inj hj
      subst hr9
      exact hk H locs ls hP hD hS (lv_sub hl [2, 3, 4, 5, 6] rfl)
    · replace hj := ja_pos c7 hj
      refine lv_aload_n hx hb dL_law_1364 rfl (lv_at hl 5 rfl) ?_
      refine lv_iconst (v := (0 : Int32)) hx hb dL_law_1365 (by decide) ?_
      refine va_lald hx hb hK hP 10 1 rfl rfl (show vp_in (0 : Int32) 1 by unfold vp_in; decide) dL_law_1366 ?_
      refine lv_lload hx hb dL_law_1367 (lv_at hl 0 rfl) ?_
      refine W.lcmp hx hb dL_law_1369 ?_
      refine lv_if_eq (tgt := 1375) hx hb dL_law_1370 (by decide) (fun c8 => ?_) (fun c8 => ?_)
      · replace hj := ja_pos ((lg_cmp_eq (v2 (0 : Int32).toNatClampNeg) v3).mp c8) hj
        refine lv_goto (tgt := 1465) hx hb dL_law_1375 (by decide) ?_
        have hr9 : (w, en, pl, cu, li, ld, fb, v4, rw, mn, at_, ml, md_l, wd, md, sm, fr, no, v2) = r := Option.some.inj hj
        subst hr9
        exact hk H locs ls hP hD hS (lv_sub hl [2, 3, 4, 5, 6] rfl)
      · replace hj := ja_neg (fun h9 => c8 ((lg_cmp_eq (v2 (0 : Int32).toNatClampNeg) v3).mpr h9)) hj
        refine lv_iconst (v := (0 : Int32)) hx hb dL_law_1373 (by decide) ?_
        cases hj
  · replace hj := ja_neg c6 hj
    refine lv_iconst (v := (0 : Int32)) hx hb dL_law_1357 (by decide) ?_
    cases hj
def jC_20 (w : Nat → Int64) (en : Int32) (pl : Int32) (cu : Int32) (li : Nat → Int64) (ld : Int32) (fb : Nat → Int64) (th : Int32) (rw : Nat → Int32) (mn : Int32) (at_ : Int32) (ml : Nat → Int64) (md_l : Int32) (wd : Nat → Int32) (md : Int32) (sm : Nat → Int64) (fr : Int32) (no : Int32) (ou : Nat → Int64) (v_1 v_2 v_3 v_4 : Int32) : Option (jSt9) :=
  (j_L_unfold ou (((v_1.toInt64) <<< ((32 : Int32).toInt64 &&& 63)) ||| ((v_2.toInt64) &&& (4294967295 : Int64)))).bind fun (v1, v2) => ((j_X2_unfold th (((v_1.toInt64) <<< ((32 : Int32).toInt64 &&& 63)) ||| ((v_2.toInt64) &&& (4294967295 : Int64)))).bind fun (v3, v4) => ((j_X2_thrown v4).bind fun v5 => (if v5 = v1 then (if v1 = (0 : Int32) then (if (v2 (0 : Int32).toNatClampNeg) = v3 then (some (w, en, pl, cu, li, ld, fb, v4, rw, mn, at_, ml, md_l, wd, md, sm, fr, no, v2)) else (none)) else (some (w, en, pl, cu, li, ld, fb, v4, rw, mn, at_, ml, md_l, wd, md, sm, fr, no, v2))) else (none))))
set_option maxHeartbeats 4000000 in
set_option maxRecDepth 100000 in
theorem sl_20 {p : Program} {l : Launch} {e : Env} {s : State} {m : MethodId} {below : List Frame} {meth : Method} {c : Code} {dC : Nat → ClassId} {dI : Nat → Nat → Nat} {cI cJ : ClassId} {b L : Nat} {xs : Nat → Int32} (hlt : l.stackTraces = false) (C0 : sl_Cx p s m meth c b L xs) (hK : va_K (dC, dI) vwCl (jTy cI cJ) s) (hN : jNs s) (hXs : jXs (fun q : Nat => s.heap.size ≤ q) s) (hL : L ≤ 2560) (b1 : Nat) (b0 : Nat) (bw : Nat) (bq : Nat) (bf : Nat) (g0 : Nat) (gr : Nat) (gl : Nat) (gw : Nat) (gs : Nat) (bo : Nat) (w : Nat → Int64) (en : Int32) (pl : Int32) (cu : Int32) (li : Nat → Int64) (ld : Int32) (fb : Nat → Int64) (th : Int32) (rw : Nat → Int32) (mn : Int32) (at_ : Int32) (ml : Nat → Int64) (md_l : Int32) (wd : Nat → Int32) (md : Int32) (sm : Nat → Int64) (fr : Int32) (no : Int32) (ou : Nat → Int64) (i kk : Nat) (hi : i + 5 ≤ L) (hkk : kk < 512) (r : jSt9) (hj : jC_20 w en pl cu li ld fb th rw mn at_ ml md_l wd md sm fr no ou (xs (i + 1)) (xs (i + 2)) (xs (i + 3)) (xs (i + 4)) = some r)
    (hk : ∀ (H : Heap) (locs : List Loc) (ls : Array Slot), va_P (dC, dI) vwCl (wL cI cJ b1 b0 bw bq bf g0 gr gl gw gs bo r.1 r.2.1 r.2.2.1 r.2.2.2.1 r.2.2.2.2.1 r.2.2.2.2.2.1 r.2.2.2.2.2.2.1 r.2.2.2.2.2.2.2.1 r.2.2.2.2.2.2.2.2.1 r.2.2.2.2.2.2.2.2.2.1 r.2.2.2.2.2.2.2.2.2.2.1 r.2.2.2.2.2.2.2.2.2.2.2.1 r.2.2.2.2.2.2.2.2.2.2.2.2.1 r.2.2.2.2.2.2.2.2.2.2.2.2.2.1 r.2.2.2.2.2.2.2.2.2.2.2.2.2.2.1 r.2.2.2.2.2.2.2.2.2.2.2.2.2.2.2.1 r.2.2.2.2.2.2.2.2.2.2.2.2.2.2.2.2.1 r.2.2.2.2.2.2.2.2.2.2.2.2.2.2.2.2.2.1 r.2.2.2.2.2.2.2.2.2.2.2.2.2.2.2.2.2.2) H → va_D (fun q : Nat => s.heap.size ≤ q) (wL cI cJ b1 b0 bw bq bf g0 gr gl gw gs bo r.1 r.2.1 r.2.2.1 r.2.2.2.1 r.2.2.2.2.1 r.2.2.2.2.2.1 r.2.2.2.2.2.2.1 r.2.2.2.2.2.2.2.1 r.2.2.2.2.2.2.2.2.1 r.2.2.2.2.2.2.2.2.2.1 r.2.2.2.2.2.2.2.2.2.2.1 r.2.2.2.2.2.2.2.2.2.2.2.1 r.2.2.2.2.2.2.2.2.2.2.2.2.1 r.2.2.2.2.2.2.2.2.2.2.2.2.2.1 r.2.2.2.2.2.2.2.2.2.2.2.2.2.2.1 r.2.2.2.2.2.2.2.2.2.2.2.2.2.2.2.1 r.2.2.2.2.2.2.2.2.2.2.2.2.2.2.2.2.1 r.2.2.2.2.2.2.2.2.2.2.2.2.2.2.2.2.2.1 r.2.2.2.2.2.2.2.2.2.2.2.2.2.2.2.2.2.2) → va_S (fun q : Nat => s.heap.size ≤ q) s.heap H locs → lv_has ls 8 [(0, .ref b), (1, .ref b1), (2, .ref g0), (3, .ref bo), (4, .int (nI i))] → W p l e room_1 s m #[Value.ref b] below meth c H locs (11 + (kk + 1)) (8761 + 6 * (kk + 1)) (lw_Z below #[Value.ref b] s) (F0 m 1465 ls [])) :
    ∀ (H : Heap) (locs : List Loc) (ls : Array Slot), va_P (dC, dI) vwCl (wL cI cJ b1 b0 bw bq bf g0 gr gl gw gs bo w en pl cu li ld fb th rw mn at_ ml md_l wd md sm fr no ou) H → va_D (fun q : Nat => s.heap.size ≤ q) (wL cI cJ b1 b0 bw bq bf g0 gr gl gw gs bo w en pl cu li ld fb th rw mn at_ ml md_l wd md sm fr no ou) → va_S (fun q : Nat => s.heap.size ≤ q) s.heap H locs → lv_has ls 8 [(0, .ref b), (1, .ref b1), (2, .ref g0), (3, .ref bo), (4, .int (nI i))] → W p l e room_1 s m #[Value.ref b] below meth c H locs (11 + kk) (8761 + 6 * kk) (lw_Z below #[Value.ref b] s) (F0 m 1378 ls []) := by
  obtain ⟨hx, hb, hr, hml, hown, hts, hX, hbl, hlocks⟩ := id C0
  have hA : ∀ q : Nat, s.heap.size ≤ q → (fun q : Nat => s.heap.size ≤ q) q := fun _ h => h
  have hbA : ¬ (fun q : Nat => s.heap.size ≤ q) b := Nat.not_le.mpr hbl
  intro H locs ls hP hD hS hl
  generalize hAe : (fun q : Nat => s.heap.size ≤ q) = A at hA hbA hXs hD hS hk ⊢
  clear hAe
  unfold jC_20 at hj
  refine lv_aload_n hx hb dL_law_1378 rfl (lv_at hl 1 rfl) ?_
  refine lv_aload_n hx hb dL_law_1379 rfl (lv_at hl 0 rfl) ?_
  refine lv_iload hx hb dL_law_1380 (lv_at hl 4 rfl) ?_
  refine lv_iconst (v := (1 : Int32)) hx hb dL_law_1382 (by decide) ?_
  refine lv_iadd hx hb dL_law_1383 ?_
  refine sl_ld hx hb hX hbl hbA hS (j := i + 1) (by omega) hL (nI_add i 1) dL_law_1384 ?_
  refine lv_i2l hx hb dL_law_1385 rfl ?_
  refine lv_bipush (v := (32 : Int32)) hx hb dL_law_1386 (by decide) ?_
  refine lv_lshl hx hb dL_law_1388 rfl ?_
  refine lv_aload_n hx hb dL_law_1389 rfl (lv_at hl 0 rfl) ?_
  refine lv_iload hx hb dL_law_1390 (lv_at hl 4 rfl) ?_
  refine lv_iconst (v := (2 : Int32)) hx hb dL_law_1392 (by decide) ?_
  refine lv_iadd hx hb dL_law_1393 ?_
  refine sl_ld hx hb hX hbl hbA hS (j := i + 2) (by omega) hL (nI_add i 2) dL_law_1394 ?_
  refine lv_i2l hx hb dL_law_1395 rfl ?_
  refine lv_ldc2 (v := (4294967295 : Int64)) hx hb hown (hts (.constantLong RL 75 (4294967295)) (by decide +kernel)) dL_law_1396 ?_
  refine lv_land hx hb dL_law_1399 ?_
  refine lv_lor hx hb dL_law_1400 ?_
  refine lv_aload_n hx hb dL_law_1401 rfl (lv_at hl 3 rfl) ?_
  obtain ⟨⟨v1, v2⟩, hc, hj⟩ := ja_bd hj
  try dsimp only at hj
  have hPc := hP.sub (ws' := (wH cJ b1 b0 bw bq bf bo w en pl cu li ld fb ou)) [0, 1, 2, 3, 4, 10] rfl
  have hDc := hD.sub (ws' := (wH cJ b1 b0 bw bq bf bo w en pl cu li ld fb ou)) [0, 1, 2, 3, 4, 10] (by decide) rfl
  have hFc := va_free (wc := (wH cJ b1 b0 bw bq bf bo w en pl cu li ld fb ou)) hD hS hA [0, 1, 2, 3, 4, 10] rfl
  refine va_calli (vx_runSW (As := [.ref b1, .long ((((xs (i + 1)).toInt64) <<< ((32 : Int32).toInt64 &&& 63)) ||| (((xs (i + 2)).toInt64) &&& (4294967295 : Int64))), .ref bo]) (rest := []) ⟨hx, hb, hml, hown, hts⟩ (c_L_unfold l hlt dC dI cI cJ b1 b0 bw bq bf bo H.size w en pl cu li ld fb ou ((((xs (i + 1)).toInt64) <<< ((32 : Int32).toInt64 &&& 63)) ||| (((xs (i + 2)).toInt64) &&& (4294967295 : Int64))) _ hc) (vx_cwSW 3 hts gL_law_L_unfold rfl rfl rfl (by decide +kernel) ⟨Nat.le_of_ble_eq_true rfl, Nat.le_of_ble_eq_true rfl⟩) ⟨fun a U g mk q => ⟨q.1, jPr.blind q.2.1, jNs.blind q.2.2.1, jXs.blind q.2.2.2⟩, fun U hU hW => ⟨rfl, jPr.mk hU hW hPc hK hDc, jNs.warm hW hN, jXs.down hU hW hS hFc hXs⟩⟩ rfl rfl hl.1 rfl (lv_room (Nat.le_of_ble_eq_true rfl)) dL_law_1402 ⟨by show _ ≤ 1043; omega, by show _ ≤ 17001; omega⟩) hS (fun q _ h => hFc q h) hFc (fun rr u t H1 locs ht hvm hw9 hB hz1 hk1 hS => ?_)
  have hw8 : v1 = rr := hw9.symm
  subst hw8
  obtain ⟨hP1, hK1, hD1⟩ := hB
  rw [ht] at hP1
  obtain ⟨hP, hD⟩ := va_join (wr := ([(g0, .inr (2, [.int th, .ref gr, .int mn, .int at_, .ref gl, .int md_l, .ref gw, .int md, .ref gs, .int fr, .int no])), (gr, .inl (cI, 4096, .inl rw)), (gl, .inl (cJ, 100, .inr (.inl ml))), (gw, .inl (cI, 4200, .inl wd)), (gs, .inl (cJ, 92, .inr (.inl sm)))] : va_W)) (w1 := (wH cJ b1 b0 bw bq bf bo w en pl cu li ld fb v2)) hP hD [0, 1, 2, 3, 4, 10] [5, 6, 7, 8, 9] rfl rfl (by decide) (by decide) hk1 hFc hP1 hD1
  replace hP := hP.sub (ws' := (wL cI cJ b1 b0 bw bq bf g0 gr gl gw gs bo w en pl cu li ld fb th rw mn at_ ml md_l wd md sm fr no v2)) [5, 6, 7, 8, 9, 0, 1, 2, 3, 4, 10] rfl
  replace hD := hD.sub (ws' := (wL cI cJ b1 b0 bw bq bf g0 gr gl gw gs bo w en pl cu li ld fb th rw mn at_ ml md_l wd md sm fr no v2)) [5, 6, 7, 8, 9, 0, 1, 2, 3, 4, 10] (by decide) rfl
  clear hk1 hP1 hK1 hD1 hvm hz1 hPc hDc hFc
  generalize H1 = H at hP hS ⊢
  refine W.widen (k := 11 + (kk + 1)) (n := 8761 + 6 * (kk + 1)) (by omega) (by omega) ?_
  have hP : va_P (dC, dI) vwCl (wL cI cJ b1 b0 bw bq bf g0 gr gl gw gs bo w en pl cu li ld fb th rw mn at_ ml md_l wd md sm fr no v2) H := hP
  have hD : va_D A (wL cI cJ b1 b0 bw bq bf g0 gr gl gw gs bo w en pl cu li ld fb th rw mn at_ ml md_l wd md sm fr no v2) := hD
  refine lv_istore (lv' := [(5, .int v1), (0, .ref b), (1, .ref b1), (2, .ref g0), (3, .ref bo), (4, .int (nI i))]) hx hb dL_law_1405 hl (by decide) rfl (fun ls hl => ?_)
  refine lv_aload_n hx hb dL_law_1407 rfl (lv_at hl 3 rfl) ?_
  refine lv_aload_n hx hb dL_law_1408 rfl (lv_at hl 1 rfl) ?_
  refine lv_iload hx hb dL_law_1409 (lv_at hl 5 rfl) ?_
  refine lv_iconst (v := (1 : Int32)) hx hb dL_law_1411 (by decide) ?_
  refine lv_iadd hx hb dL_law_1412 ?_
  refine sl_ld hx hb hX hbl hbA hS (j := i + 1) (by omega) hL (nI_add i 1) dL_law_1413 ?_
  refine lv_i2l hx hb dL_law_1414 rfl ?_
  refine lv_bipush (v := (32 : Int32)) hx hb dL_law_1415 (by decide) ?_
  refine lv_lshl hx hb dL_law_1417 rfl ?_
  refine lv_aload_n hx hb dL_law_1418 rfl (lv_at hl 1 rfl) ?_
  refine lv_iload hx hb dL_law_1419 (lv_at hl 5 rfl) ?_
  refine lv_iconst (v := (2 : Int32)) hx hb dL_law_1421 (by decide) ?_
  refine lv_iadd hx hb dL_law_1422 ?_
  refine sl_ld hx hb hX hbl hbA hS (j := i + 2) (by omega) hL (nI_add i 2) dL_law_1423 ?_
  refine lv_i2l hx hb dL_law_1424 rfl ?_
  refine lv_ldc2 (v := (4294967295 : Int64)) hx hb hown (hts (.constantLong RL 75 (4294967295)) (by decide +kernel)) dL_law_1425 ?_
  refine lv_land hx hb dL_law_1428 ?_
  refine lv_lor hx hb dL_law_1429 ?_
  obtain ⟨⟨v3, v4⟩, hc, hj⟩ := ja_bd hj
  try dsimp only at hj
  have hPc := hP.sub (ws' := (wM cI cJ g0 gr gl gw gs th rw mn at_ ml md_l wd md sm fr no)) [5, 6, 7, 8, 9] rfl
  have hDc := hD.sub (ws' := (wM cI cJ g0 gr gl gw gs th rw mn at_ ml md_l wd md sm fr no)) [5, 6, 7, 8, 9] (by decide) rfl
  have hFc := va_free (wc := (wM cI cJ g0 gr gl gw gs th rw mn at_ ml md_l wd md sm fr no)) hD hS hA [5, 6, 7, 8, 9] rfl
  refine va_calll (va_runV (As := [.long ((((xs (i + 1)).toInt64) <<< ((32 : Int32).toInt64 &&& 63)) ||| (((xs (i + 2)).toInt64) &&& (4294967295 : Int64)))]) (rest := []) ⟨hx, hb, hml, hown, hts⟩ (c_X2_unfold l dC dI cI cJ g0 gr gl gw gs H.size th rw mn at_ ml md_l wd md sm fr no ((((xs (i + 1)).toInt64) <<< ((32 : Int32).toInt64 &&& 63)) ||| (((xs (i + 2)).toInt64) &&& (4294967295 : Int64))) _ hc) (cwV 1 hts gL_law_X2_unfold rfl rfl rfl (by decide +kernel) ⟨Nat.le_of_ble_eq_true rfl, Nat.le_of_ble_eq_true rfl⟩) ⟨fun a U g mk q => ⟨q.1, jPr.blind q.2⟩, va_recv hK hPc (ci := 2) (q0 := 0) rfl rfl, fun U hU hW => ⟨rfl, jPr.mk hU hW hPc hK hDc⟩⟩ rfl rfl hl.1 rfl (lv_room (Nat.le_of_ble_eq_true rfl)) dL_law_1430 ⟨by show _ ≤ 1043; omega, by show _ ≤ 17001; omega⟩) hS (fun q _ h => hFc q h) hFc (fun rr u t H1 locs ht hvm hw9 hB hz1 hk1 hS => ?_)
  have hw8 : v3 = rr := hw9.symm
  subst hw8
  obtain ⟨hP1, hK1, hD1⟩ := hB
  rw [ht] at hP1
  obtain ⟨hP, hD⟩ := va_join (wr := ([(b1, .inr (1, [.ref b0, .ref bq, .ref bf, .int ld])), (b0, .inr (0, [.ref bw, .int en, .int pl, .int cu])), (bw, .inl (cJ, 64, .inr (.inl w))), (bq, .inl (cJ, 100, .inr (.inl li))), (bf, .inl (cJ, 89, .inr (.inl fb))), (bo, .inl (cJ, 1, .inr (.inl v2)))] : va_W)) (w1 := (wM cI cJ g0 gr gl gw gs v4 rw mn at_ ml md_l wd md sm fr no)) hP hD [5, 6, 7, 8, 9] [0, 1, 2, 3, 4, 10] rfl rfl (by decide) (by decide) hk1 hFc hP1 hD1
  replace hP := hP.sub (ws' := (wL cI cJ b1 b0 bw bq bf g0 gr gl gw gs bo w en pl cu li ld fb v4 rw mn at_ ml md_l wd md sm fr no v2)) [0, 1, 2, 3, 4, 6, 7, 8, 9, 10, 5] rfl
  replace hD := hD.sub (ws' := (wL cI cJ b1 b0 bw bq bf g0 gr gl gw gs bo w en pl cu li ld fb v4 rw mn at_ ml md_l wd md sm fr no v2)) [0, 1, 2, 3, 4, 6, 7, 8, 9, 10, 5] (by decide) rfl
  clear hk1 hP1 hK1 hD1 hvm hz1 hPc hDc hFc
  generalize H1 = H at hP hS ⊢
  refine W.widen (k := 11 + (kk + 1)) (n := 8761 + 6 * (kk + 1)) (by omega) (by omega) ?_
  have hP : va_P (dC, dI) vwCl (wL cI cJ b1 b0 bw bq bf g0 gr gl gw gs bo w en pl cu li ld fb v4 rw mn at_ ml md_l wd md sm fr no v2) H := hP
  have hD : va_D A (wL cI cJ b1 b0 bw bq bf g0 gr gl gw gs bo w en pl cu li ld fb v4 rw mn at_ ml md_l wd md sm fr no v2) := hD
  refine lv_lstore (lv' := [(6, .long v3), (5, .int v1), (0, .ref b), (1, .ref b1), (2, .ref g0), (3, .ref bo), (4, .int (nI i))]) hx hb dL_law_1433 hl (by decide) rfl (fun ls hl => ?_)
  refine lv_aload_n hx hb dL_law_1435 rfl (lv_at hl 4 rfl) ?_
  obtain ⟨v5, hc, hj⟩ := ja_bd hj
  try dsimp only at hj
  have hPc := hP.sub (ws' := (wM cI cJ g0 gr gl gw gs v4 rw mn at_ ml md_l wd md sm fr no)) [5, 6, 7, 8, 9] rfl
  have hDc := hD.sub (ws' := (wM cI cJ g0 gr gl gw gs v4 rw mn at_ ml md_l wd md sm fr no)) [5, 6, 7, 8, 9] (by decide) rfl
  have hFc := va_free (wc := (wM cI cJ g0 gr gl gw gs v4 rw mn at_ ml md_l wd md sm fr no)) hD hS hA [5, 6, 7, 8, 9] rfl
  refine va_calli (va_runV (As := []) (rest := []) ⟨hx, hb, hml, hown, hts⟩ (c_X2_thrown l dC dI cI cJ g0 gr gl gw gs H.size v4 rw mn at_ ml md_l wd md sm fr no _ hc) (cwV 0 hts gL_law_X2_thrown rfl rfl rfl (by decide +kernel) ⟨Nat.le_of_ble_eq_true rfl, Nat.le_of_ble_eq_true rfl⟩) ⟨fun a U g mk q => ⟨q.1, jPr.blind q.2⟩, va_recv hK hPc (ci := 2) (q0 := 0) rfl rfl, fun U hU hW => ⟨rfl, jPr.mk hU hW hPc hK hDc⟩⟩ rfl rfl hl.1 rfl (lv_room (Nat.le_of_ble_eq_true rfl)) dL_law_1436 ⟨by show _ ≤ 1043; omega, by show _ ≤ 17001; omega⟩) hS (fun q _ h => hFc q h) hFc (fun rr u t H1 locs ht hvm hw9 hB hz1 hk1 hS => ?_)
  have hw8 : v5 = rr := hw9.symm
  subst hw8
  obtain ⟨hP1, hK1, hD1⟩ := hB
  rw [ht] at hP1
  obtain ⟨hP, hD⟩ := va_join (wr := ([(b1, .inr (1, [.ref b0, .ref bq, .ref bf, .int ld])), (b0, .inr (0, [.ref bw, .int en, .int pl, .int cu])), (bw, .inl (cJ, 64, .inr (.inl w))), (bq, .inl (cJ, 100, .inr (.inl li))), (bf, .inl (cJ, 89, .inr (.inl fb))), (bo, .inl (cJ, 1, .inr (.inl v2)))] : va_W)) (w1 := (wM cI cJ g0 gr gl gw gs v4 rw mn at_ ml md_l wd md sm fr no)) hP hD [5, 6, 7, 8, 9] [0, 1, 2, 3, 4, 10] rfl rfl (by decide) (by decide) hk1 hFc hP1 hD1
  replace hP := hP.sub (ws' := (wL cI cJ b1 b0 bw bq bf g0 gr gl gw gs bo w en pl cu li ld fb v4 rw mn at_ ml md_l wd md sm fr no v2)) [0, 1, 2, 3, 4, 6, 7, 8, 9, 10, 5] rfl
  replace hD := hD.sub (ws' := (wL cI cJ b1 b0 bw bq bf g0 gr gl gw gs bo w en pl cu li ld fb v4 rw mn at_ ml md_l wd md sm fr no v2)) [0, 1, 2, 3, 4, 6, 7, 8, 9, 10, 5] (by decide) rfl
  clear hk1 hP1 hK1 hD1 hvm hz1 hPc hDc hFc
  generalize H1 = H at hP hS ⊢
  refine W.widen (k := 11 + (kk + 1)) (n := 8761 + 6 * (kk + 1)) (by omega) (by omega) ?_
  have hP : va_P (dC, dI) vwCl (wL cI cJ b1 b0 bw bq bf g0 gr gl gw gs bo w en pl cu li ld fb v4 rw mn at_ ml md_l wd md sm fr no v2) H := hP
  have hD : va_D A (wL cI cJ b1 b0 bw bq bf g0 gr gl gw gs bo w en pl cu li ld fb v4 rw mn at_ ml md_l wd md sm fr no v2) := hD
  refine lv_iload hx hb dL_law_1439 (lv_at hl 1 rfl) ?_
  refine lv_icmp_eq (tgt := 1446) hx hb dL_law_1441 (by decide) (fun c6 => ?_) (fun c6 => ?_)
  · replace hj := ja_pos c6 hj
    refine lv_iload hx hb dL_law_1446 (lv_at hl 1 rfl) ?_
    refine lv_if_ne (tgt := 1462) hx hb dL_law_1448 (by decide) (fun c7 => ?_) (fun c7 => ?_)
    · replace hj := ja_neg c7 hj
      refine lv_goto (tgt := 1465) hx hb dL_law_1462 (by decide) ?_
      have hr9 : (w, en, pl, cu, li, ld, fb, v4, rw, mn, at_, ml, md_l, wd, md, sm, fr, no, v2) = r := Option.some.inj hj
      subst hr9
      exact hk H locs ls hP hD hS (lv_sub hl [2, 3, 4, 5, 6] rfl)
    · replace hj := ja_pos c7 hj
      refine lv_aload_n hx hb dL_law_1451 rfl (lv_at hl 5 rfl) ?_
      refine lv_iconst (v := (0 : Int32)) hx hb dL_law_1452 (by decide) ?_
      refine va_lald hx hb hK hP 10 1 rfl rfl (show vp_in (0 : Int32) 1 by unfold vp_in; decide) dL_law_1453 ?_
      refine lv_lload hx hb dL_law_1454 (lv_at hl 0 rfl) ?_
      refine W.lcmp hx hb dL_law_1456 ?_
      refine lv_if_eq (tgt := 1462) hx hb dL_law_1457 (by decide) (fun c8 => ?_) (fun c8 => ?_)
      · replace hj := ja_pos ((lg_cmp_eq (v2 (0 : Int32).toNatClampNeg) v3).mp c8) hj
        refine lv_goto (tgt := 1465) hx hb dL_law_1462 (by decide) ?_
        have hr9 : (w, en, pl, cu, li, ld, fb, v4, rw, mn, at_, ml, md_l, wd, md, sm, fr, no, v2) = r := Option.some.inj hj
        subst hr9
        exact hk H locs ls hP hD hS (lv_sub hl [2, 3, 4, 5, 6] rfl)
      · replace hj := ja_neg (fun h9 => c8 ((lg_cmp_eq (v2 (0 : Int32).toNatClampNeg) v3).mpr h9)) hj
        refine lv_iconst (v := (0 : Int32)) hx hb dL_law_1460 (by decide) ?_
        cases hj
  · replace hj := ja_neg c6 hj
    refine lv_iconst (v := (0 : Int32)) hx hb dL_law_1444 (by decide) ?_
    cases hj
