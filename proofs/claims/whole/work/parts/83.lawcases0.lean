abbrev wL (cI cJ : ClassId) (b1 b0 bw bq bf g0 gr gl gw gs bo : Nat) (w : Nat → Int64) (en : Int32) (pl : Int32) (cu : Int32) (li : Nat → Int64) (ld : Int32) (fb : Nat → Int64) (th : Int32) (rw : Nat → Int32) (mn : Int32) (at_ : Int32) (ml : Nat → Int64) (md_l : Int32) (wd : Nat → Int32) (md : Int32) (sm : Nat → Int64) (fr : Int32) (no : Int32) (ou : Nat → Int64) : va_W := [(b1, .inr (1, [.ref b0, .ref bq, .ref bf, .int ld])), (b0, .inr (0, [.ref bw, .int en, .int pl, .int cu])), (bw, .inl (cJ, 64, .inr (.inl w))), (bq, .inl (cJ, 100, .inr (.inl li))), (bf, .inl (cJ, 89, .inr (.inl fb))), (g0, .inr (2, [.int th, .ref gr, .int mn, .int at_, .ref gl, .int md_l, .ref gw, .int md, .ref gs, .int fr, .int no])), (gr, .inl (cI, 4096, .inl rw)), (gl, .inl (cJ, 100, .inr (.inl ml))), (gw, .inl (cI, 4200, .inl wd)), (gs, .inl (cJ, 92, .inr (.inl sm))), (bo, .inl (cJ, 1, .inr (.inl ou)))]
abbrev jSt9 : Type := (Nat → Int64) × Int32 × Int32 × Int32 × (Nat → Int64) × Int32 × (Nat → Int64) × Int32 × (Nat → Int32) × Int32 × Int32 × (Nat → Int64) × Int32 × (Nat → Int32) × Int32 × (Nat → Int64) × Int32 × Int32 × (Nat → Int64)
def sl_Cx (p : Program) (s : State) (m : MethodId) (meth : Method) (c : Code) (b L : Nat) (xs : Nat → Int32) : Prop :=
  p.tables.exec = Jvm.exec ∧ c.code = code ∧ meth.sig.returnType = ret ∧ c.maxLocals = 8 ∧ s.vm.findClass RL = some m.cls ∧ (∀ w ∈ wsL_law, w.before #[Value.ref b] s = true) ∧ va_X b L xs s s.heap ∧ b < s.heap.size ∧ meth.locks = false
theorem sl_ld {p : Program} {l : Launch} {e : Env} {R : Room} {s : State} {m : MethodId} {args : Array Value} {below : List Frame} {meth : Method} {c : Code} {H : Heap} {locs : List Loc} {cells slots : Nat} {Q : State → Prop} {pc : Nat} {ls : Array Slot} {rest : List Value} {A : Nat → Prop} {H0 : Heap} {cc : ByteArray} (hexec : p.tables.exec = Jvm.exec) (hb : c.code = cc) {b L : Nat} {xs : Nat → Int32} (hX : va_X b L xs s H0) (hbl : b < H0.size) (hbA : ¬ A b) (hS : va_S A H0 H locs) {j : Nat} (hj : j < L) (hL : L ≤ 2560) {x : Int32} (hx : x = nI j) (hdg : decode cc pc = .ok (.iaload, 1))
    (kk : W p l e R s m args below meth c H locs cells slots Q (F0 m (pc + 1) ls (.int (xs j) :: rest))) : W p l e R s m args below meth c H locs cells slots Q (F0 m pc ls (.int x :: .ref b :: rest)) := by
  have hin : vp_in x L := by rw [hx]; exact vp_in_nI hj (by omega)
  have hc : x.toNatClampNeg = j := by rw [hx]; exact nI_clamp (by omega)
  refine va_sld hexec hb hX hbl hbA hS hin hdg ?_
  rw [hc]
  exact kk
def jC_0 (w : Nat → Int64) (en : Int32) (pl : Int32) (cu : Int32) (li : Nat → Int64) (ld : Int32) (fb : Nat → Int64) (th : Int32) (rw : Nat → Int32) (mn : Int32) (at_ : Int32) (ml : Nat → Int64) (md_l : Int32) (wd : Nat → Int32) (md : Int32) (sm : Nat → Int64) (fr : Int32) (no : Int32) (ou : Nat → Int64) (v_1 v_2 v_3 v_4 : Int32) : Option (jSt9) :=
  (j_L_length fb ou v_1 v_2 (((v_3.toInt64) <<< ((32 : Int32).toInt64 &&& 63)) ||| ((v_4.toInt64) &&& (4294967295 : Int64)))).bind fun (v1, v2) => ((j_X2_length th sm v_1 v_2 (((v_3.toInt64) <<< ((32 : Int32).toInt64 &&& 63)) ||| ((v_4.toInt64) &&& (4294967295 : Int64)))).bind fun (v3, v4) => ((j_X2_thrown v4).bind fun v5 => (if v5 = v1 then (if v1 = (0 : Int32) then (if (v2 (0 : Int32).toNatClampNeg) = v3 then (some (w, en, pl, cu, li, ld, fb, v4, rw, mn, at_, ml, md_l, wd, md, sm, fr, no, v2)) else (none)) else (some (w, en, pl, cu, li, ld, fb, v4, rw, mn, at_, ml, md_l, wd, md, sm, fr, no, v2))) else (none))))
set_option maxHeartbeats 4000000 in
set_option maxRecDepth 100000 in
theorem sl_0 {p : Program} {l : Launch} {e : Env} {s : State} {m : MethodId} {below : List Frame} {meth : Method} {c : Code} {dC : Nat → ClassId} {dI : Nat → Nat → Nat} {cI cJ : ClassId} {b L : Nat} {xs : Nat → Int32} (hlt : l.stackTraces = false) (C0 : sl_Cx p s m meth c b L xs) (hK : va_K (dC, dI) vwCl (jTy cI cJ) s) (hN : jNs s) (hXs : jXs (fun q : Nat => s.heap.size ≤ q) s) (hL : L ≤ 2560) (b1 : Nat) (b0 : Nat) (bw : Nat) (bq : Nat) (bf : Nat) (g0 : Nat) (gr : Nat) (gl : Nat) (gw : Nat) (gs : Nat) (bo : Nat) (w : Nat → Int64) (en : Int32) (pl : Int32) (cu : Int32) (li : Nat → Int64) (ld : Int32) (fb : Nat → Int64) (th : Int32) (rw : Nat → Int32) (mn : Int32) (at_ : Int32) (ml : Nat → Int64) (md_l : Int32) (wd : Nat → Int32) (md : Int32) (sm : Nat → Int64) (fr : Int32) (no : Int32) (ou : Nat → Int64) (i kk : Nat) (hi : i + 5 ≤ L) (hkk : kk < 512) (r : jSt9) (hj : jC_0 w en pl cu li ld fb th rw mn at_ ml md_l wd md sm fr no ou (xs (i + 1)) (xs (i + 2)) (xs (i + 3)) (xs (i + 4)) = some r)
    (hk : ∀ (H : Heap) (locs : List Loc) (ls : Array Slot), va_P (dC, dI) vwCl (wL cI cJ b1 b0 bw bq bf g0 gr gl gw gs bo r.1 r.2.1 r.2.2.1 r.2.2.2.1 r.2.2.2.2.1 r.2.2.2.2.2.1 r.2.2.2.2.2.2.1 r.2.2.2.2.2.2.2.1 r.2.2.2.2.2.2.2.2.1 r.2.2.2.2.2.2.2.2.2.1 r.2.2.2.2.2.2.2.2.2.2.1 r.2.2.2.2.2.2.2.2.2.2.2.1 r.2.2.2.2.2.2.2.2.2.2.2.2.1 r.2.2.2.2.2.2.2.2.2.2.2.2.2.1 r.2.2.2.2.2.2.2.2.2.2.2.2.2.2.1 r.2.2.2.2.2.2.2.2.2.2.2.2.2.2.2.1 r.2.2.2.2.2.2.2.2.2.2.2.2.2.2.2.2.1 r.2.2.2.2.2.2.2.2.2.2.2.2.2.2.2.2.2.1 r.2.2.2.2.2.2.2.2.2.2.2.2.2.2.2.2.2.2) H → va_D (fun q : Nat => s.heap.size ≤ q) (wL cI cJ b1 b0 bw bq bf g0 gr gl gw gs bo r.1 r.2.1 r.2.2.1 r.2.2.2.1 r.2.2.2.2.1 r.2.2.2.2.2.1 r.2.2.2.2.2.2.1 r.2.2.2.2.2.2.2.1 r.2.2.2.2.2.2.2.2.1 r.2.2.2.2.2.2.2.2.2.1 r.2.2.2.2.2.2.2.2.2.2.1 r.2.2.2.2.2.2.2.2.2.2.2.1 r.2.2.2.2.2.2.2.2.2.2.2.2.1 r.2.2.2.2.2.2.2.2.2.2.2.2.2.1 r.2.2.2.2.2.2.2.2.2.2.2.2.2.2.1 r.2.2.2.2.2.2.2.2.2.2.2.2.2.2.2.1 r.2.2.2.2.2.2.2.2.2.2.2.2.2.2.2.2.1 r.2.2.2.2.2.2.2.2.2.2.2.2.2.2.2.2.2.1 r.2.2.2.2.2.2.2.2.2.2.2.2.2.2.2.2.2.2) → va_S (fun q : Nat => s.heap.size ≤ q) s.heap H locs → lv_has ls 8 [(0, .ref b), (1, .ref b1), (2, .ref g0), (3, .ref bo), (4, .int (nI i))] → W p l e room_1 s m #[Value.ref b] below meth c H locs (11 + (kk + 1)) (8761 + 6 * (kk + 1)) (lw_Z below #[Value.ref b] s) (F0 m 1465 ls [])) :
    ∀ (H : Heap) (locs : List Loc) (ls : Array Slot), va_P (dC, dI) vwCl (wL cI cJ b1 b0 bw bq bf g0 gr gl gw gs bo w en pl cu li ld fb th rw mn at_ ml md_l wd md sm fr no ou) H → va_D (fun q : Nat => s.heap.size ≤ q) (wL cI cJ b1 b0 bw bq bf g0 gr gl gw gs bo w en pl cu li ld fb th rw mn at_ ml md_l wd md sm fr no ou) → va_S (fun q : Nat => s.heap.size ≤ q) s.heap H locs → lv_has ls 8 [(0, .ref b), (1, .ref b1), (2, .ref g0), (3, .ref bo), (4, .int (nI i))] → W p l e room_1 s m #[Value.ref b] below meth c H locs (11 + kk) (8761 + 6 * kk) (lw_Z below #[Value.ref b] s) (F0 m 136 ls []) := by
  obtain ⟨hx, hb, hr, hml, hown, hts, hX, hbl, hlocks⟩ := id C0
  have hA : ∀ q : Nat, s.heap.size ≤ q → (fun q : Nat => s.heap.size ≤ q) q := fun _ h => h
  have hbA : ¬ (fun q : Nat => s.heap.size ≤ q) b := Nat.not_le.mpr hbl
  intro H locs ls hP hD hS hl
  generalize hAe : (fun q : Nat => s.heap.size ≤ q) = A at hA hbA hXs hD hS hk ⊢
  clear hAe
  unfold jC_0 at hj
  refine lv_aload_n hx hb dL_law_136 rfl (lv_at hl 1 rfl) ?_
  refine lv_aload_n hx hb dL_law_137 rfl (lv_at hl 0 rfl) ?_
  refine lv_iload hx hb dL_law_138 (lv_at hl 4 rfl) ?_
  refine lv_iconst (v := (1 : Int32)) hx hb dL_law_140 (by decide) ?_
  refine lv_iadd hx hb dL_law_141 ?_
  refine sl_ld hx hb hX hbl hbA hS (j := i + 1) (by omega) hL (nI_add i 1) dL_law_142 ?_
  refine lv_aload_n hx hb dL_law_143 rfl (lv_at hl 0 rfl) ?_
  refine lv_iload hx hb dL_law_144 (lv_at hl 4 rfl) ?_
  refine lv_iconst (v := (2 : Int32)) hx hb dL_law_146 (by decide) ?_
  refine lv_iadd hx hb dL_law_147 ?_
  refine sl_ld hx hb hX hbl hbA hS (j := i + 2) (by omega) hL (nI_add i 2) dL_law_148 ?_
  refine lv_aload_n hx hb dL_law_149 rfl (lv_at hl 0 rfl) ?_
  refine lv_iload hx hb dL_law_150 (lv_at hl 4 rfl) ?_
  refine lv_iconst (v := (3 : Int32)) hx hb dL_law_152 (by decide) ?_
  refine lv_iadd hx hb dL_law_153 ?_
  refine sl_ld hx hb hX hbl hbA hS (j := i + 3) (by omega) hL (nI_add i 3) dL_law_154 ?_
  refine lv_i2l hx hb dL_law_155 rfl ?_
  refine lv_bipush (v := (32 : Int32)) hx hb dL_law_156 (by decide) ?_
  refine lv_lshl hx hb dL_law_158 rfl ?_
  refine lv_aload_n hx hb dL_law_159 rfl (lv_at hl 0 rfl) ?_
  refine lv_iload hx hb dL_law_160 (lv_at hl 4 rfl) ?_
  refine lv_iconst (v := (4 : Int32)) hx hb dL_law_162 (by decide) ?_
  refine lv_iadd hx hb dL_law_163 ?_
  refine sl_ld hx hb hX hbl hbA hS (j := i + 4) (by omega) hL (nI_add i 4) dL_law_164 ?_
  refine lv_i2l hx hb dL_law_165 rfl ?_
  refine lv_ldc2 (v := (4294967295 : Int64)) hx hb hown (hts (.constantLong RL 75 (4294967295)) (by decide +kernel)) dL_law_166 ?_
  refine lv_land hx hb dL_law_169 ?_
  refine lv_lor hx hb dL_law_170 ?_
  refine lv_aload_n hx hb dL_law_171 rfl (lv_at hl 3 rfl) ?_
  obtain ⟨⟨v1, v2⟩, hc, hj⟩ := ja_bd hj
  try dsimp only at hj
  have hPc := hP.sub (ws' := (wH cJ b1 b0 bw bq bf bo w en pl cu li ld fb ou)) [0, 1, 2, 3, 4, 10] rfl
  have hDc := hD.sub (ws' := (wH cJ b1 b0 bw bq bf bo w en pl cu li ld fb ou)) [0, 1, 2, 3, 4, 10] (by decide) rfl
  have hFc := va_free (wc := (wH cJ b1 b0 bw bq bf bo w en pl cu li ld fb ou)) hD hS hA [0, 1, 2, 3, 4, 10] rfl
  refine va_calli (vx_runSW (As := [.ref b1, .int (xs (i + 1)), .int (xs (i + 2)), .long ((((xs (i + 3)).toInt64) <<< ((32 : Int32).toInt64 &&& 63)) ||| (((xs (i + 4)).toInt64) &&& (4294967295 : Int64))), .ref bo]) (rest := []) ⟨hx, hb, hml, hown, hts⟩ (c_L_length l hlt dC dI cI cJ b1 b0 bw bq bf bo H.size w en pl cu li ld fb ou (xs (i + 1)) (xs (i + 2)) ((((xs (i + 3)).toInt64) <<< ((32 : Int32).toInt64 &&& 63)) ||| (((xs (i + 4)).toInt64) &&& (4294967295 : Int64))) _ hc) (vx_cwSW 5 hts gL_law_L_length rfl rfl rfl (by decide +kernel) ⟨Nat.le_of_ble_eq_true rfl, Nat.le_of_ble_eq_true rfl⟩) ⟨fun a U g mk q => ⟨q.1, jPr.blind q.2.1, jNs.blind q.2.2.1, jXs.blind q.2.2.2⟩, fun U hU hW => ⟨rfl, jPr.mk hU hW hPc hK hDc, jNs.warm hW hN, jXs.down hU hW hS hFc hXs⟩⟩ rfl rfl hl.1 rfl (lv_room (Nat.le_of_ble_eq_true rfl)) dL_law_172 ⟨by show _ ≤ 1043; omega, by show _ ≤ 17001; omega⟩) hS (fun q _ h => hFc q h) hFc (fun rr u t H1 locs ht hvm hw9 hB hz1 hk1 hS => ?_)
  have hw8 : v1 = rr := hw9.symm
  subst hw8
  obtain ⟨hP1, hK1, hD1⟩ := hB
  rw [ht] at hP1
  obtain ⟨hP, hD⟩ := va_join (wr := ([(g0, .inr (2, [.int th, .ref gr, .int mn, .int at_, .ref gl, .int md_l, .ref gw, .int md, .ref gs, .int fr, .int no])), (gr, .inl (cI, 4096, .inl rw)), (gl, .inl (cJ, 100, .inr (.inl ml))), (gw, .inl (cI, 4200, .inl wd)), (gs, .inl (cJ, 92, .inr (.inl sm)))] : va_W)) (w1 := (wH cJ b1 b0 bw bq bf bo w en pl cu li ld fb v2)) hP hD [0, 1, 2, 3, 4, 10] [5, 6, 7, 8, 9] rfl rfl (by decide) (by decide) hk1 hFc hP1 hD1
  replace hP := hP.sub (ws' := (wL cI cJ b1 b0 bw bq bf g0 gr gl gw gs bo w en pl cu li ld fb th rw mn at_ ml md_l wd md sm fr no v2)) [5, 6, 7, 8, 9, 0, 1, 2, 3, 4, 10] rfl
  replace hD := hD.sub (ws' := (wL cI cJ b1 b0 bw bq bf g0 gr gl gw gs bo w en pl cu li ld fb th rw mn at_ ml md_l wd md sm fr no v2)) [5, 6, 7, 8, 9, 0, 1, 2, 3, 4, 10] (by decide) rfl
  clear hk1 hP1 hK1 hD1 hvm hz1 hPc hDc hFc
  generalize H1 = H at hP hS ⊢
  refine W.widen (k := 11 + (kk + 1)) (n := 8761 + 6 * (kk + 1)) (by omega) (by omega) ?_
  have hP : va_P (dC, dI) vwCl (wL cI cJ b1 b0 bw bq bf g0 gr gl gw gs bo w en pl cu li ld fb th rw mn at_ ml md_l wd md sm fr no v2) H := hP
  have hD : va_D A (wL cI cJ b1 b0 bw bq bf g0 gr gl gw gs bo w en pl cu li ld fb th rw mn at_ ml md_l wd md sm fr no v2) := hD
  refine lv_istore (lv' := [(5, .int v1), (0, .ref b), (1, .ref b1), (2, .ref g0), (3, .ref bo), (4, .int (nI i))]) hx hb dL_law_175 hl (by decide) rfl (fun ls hl => ?_)
  refine lv_aload_n hx hb dL_law_177 rfl (lv_at hl 3 rfl) ?_
  refine lv_aload_n hx hb dL_law_178 rfl (lv_at hl 1 rfl) ?_
  refine lv_iload hx hb dL_law_179 (lv_at hl 5 rfl) ?_
  refine lv_iconst (v := (1 : Int32)) hx hb dL_law_181 (by decide) ?_
  refine lv_iadd hx hb dL_law_182 ?_
  refine sl_ld hx hb hX hbl hbA hS (j := i + 1) (by omega) hL (nI_add i 1) dL_law_183 ?_
  refine lv_aload_n hx hb dL_law_184 rfl (lv_at hl 1 rfl) ?_
  refine lv_iload hx hb dL_law_185 (lv_at hl 5 rfl) ?_
  refine lv_iconst (v := (2 : Int32)) hx hb dL_law_187 (by decide) ?_
  refine lv_iadd hx hb dL_law_188 ?_
  refine sl_ld hx hb hX hbl hbA hS (j := i + 2) (by omega) hL (nI_add i 2) dL_law_189 ?_
  refine lv_aload_n hx hb dL_law_190 rfl (lv_at hl 1 rfl) ?_
  refine lv_iload hx hb dL_law_191 (lv_at hl 5 rfl) ?_
  refine lv_iconst (v := (3 : Int32)) hx hb dL_law_193 (by decide) ?_
  refine lv_iadd hx hb dL_law_194 ?_
  refine sl_ld hx hb hX hbl hbA hS (j := i + 3) (by omega) hL (nI_add i 3) dL_law_195 ?_
  refine lv_i2l hx hb dL_law_196 rfl ?_
  refine lv_bipush (v := (32 : Int32)) hx hb dL_law_197 (by decide) ?_
  refine lv_lshl hx hb dL_law_199 rfl ?_
  refine lv_aload_n hx hb dL_law_200 rfl (lv_at hl 1 rfl) ?_
  refine lv_iload hx hb dL_law_201 (lv_at hl 5 rfl) ?_
  refine lv_iconst (v := (4 : Int32)) hx hb dL_law_203 (by decide) ?_
  refine lv_iadd hx hb dL_law_204 ?_
  refine sl_ld hx hb hX hbl hbA hS (j := i + 4) (by omega) hL (nI_add i 4) dL_law_205 ?_
  refine lv_i2l hx hb dL_law_206 rfl ?_
  refine lv_ldc2 (v := (4294967295 : Int64)) hx hb hown (hts (.constantLong RL 75 (4294967295)) (by decide +kernel)) dL_law_207 ?_
  refine lv_land hx hb dL_law_210 ?_
  refine lv_lor hx hb dL_law_211 ?_
  obtain ⟨⟨v3, v4⟩, hc, hj⟩ := ja_bd hj
  try dsimp only at hj
  have hPc := hP.sub (ws' := (wM cI cJ g0 gr gl gw gs th rw mn at_ ml md_l wd md sm fr no)) [5, 6, 7, 8, 9] rfl
  have hDc := hD.sub (ws' := (wM cI cJ g0 gr gl gw gs th rw mn at_ ml md_l wd md sm fr no)) [5, 6, 7, 8, 9] (by decide) rfl
  have hFc := va_free (wc := (wM cI cJ g0 gr gl gw gs th rw mn at_ ml md_l wd md sm fr no)) hD hS hA [5, 6, 7, 8, 9] rfl
  refine va_calll (va_runV (As := [.int (xs (i + 1)), .int (xs (i + 2)), .long ((((xs (i + 3)).toInt64) <<< ((32 : Int32).toInt64 &&& 63)) ||| (((xs (i + 4)).toInt64) &&& (4294967295 : Int64)))]) (rest := []) ⟨hx, hb, hml, hown, hts⟩ (c_X2_length l dC dI cI cJ g0 gr gl gw gs H.size th rw mn at_ ml md_l wd md sm fr no (xs (i + 1)) (xs (i + 2)) ((((xs (i + 3)).toInt64) <<< ((32 : Int32).toInt64 &&& 63)) ||| (((xs (i + 4)).toInt64) &&& (4294967295 : Int64))) _ hc) (cwV 3 hts gL_law_X2_length rfl rfl rfl (by decide +kernel) ⟨Nat.le_of_ble_eq_true rfl, Nat.le_of_ble_eq_true rfl⟩) ⟨fun a U g mk q => ⟨q.1, jPr.blind q.2⟩, va_recv hK hPc (ci := 2) (q0 := 0) rfl rfl, fun U hU hW => ⟨rfl, jPr.mk hU hW hPc hK hDc⟩⟩ rfl rfl hl.1 rfl (lv_room (Nat.le_of_ble_eq_true rfl)) dL_law_212 ⟨by show _ ≤ 1043; omega, by show _ ≤ 17001; omega⟩) hS (fun q _ h => hFc q h) hFc (fun rr u t H1 locs ht hvm hw9 hB hz1 hk1 hS => ?_)
  have hw8 : v3 = rr := hw9.symm
  subst hw8
  obtain ⟨hP1, hK1, hD1⟩ := hB
  rw [ht] at hP1
  obtain ⟨hP, hD⟩ := va_join (wr := ([(b1, .inr (1, [.ref b0, .ref bq, .ref bf, .int ld])), (b0, .inr (0, [.ref bw, .int en, .int pl, .int cu])), (bw, .inl (cJ, 64, .inr (.inl w))), (bq, .inl (cJ, 100, .inr (.inl li))), (bf, .inl (cJ, 89, .inr (.inl fb))), (bo, .inl (cJ, 1, .inr (.inl v2)))] : va_W)) (w1 := (wM cI cJ g0 gr gl gw gs v4 rw mn at_ ml md_l wd md sm fr no)) hP hD [5, 6, 7, 8, 9] [0, 1, 2, 3, 4, 10] rfl rfl (by decide) (by decide) hk1 hFc hP1 hD1
  replace hP := hP.sub (ws' := (wL cI cJ b1 b0 bw bq bf g0 gr gl gw gs bo w en pl cu li ld fb v4 rw mn at_ ml md_l wd md sm fr no v2)) [0, 1, 2, 3, 4, 6, 7, 8, 9, 10, 5] rfl
  replace hD := hD.sub (ws' := (wL cI cJ b1 b0 bw bq bf g0 gr gl gw gs bo w en pl cu li ld fb v4 rw mn at_ ml md_l wd md sm fr no v2)) [0, 1, 2, 3, 4, 6, 7, 8, 9, 10, 5] (by decide) rfl
  clear hk1 hP1 hK1 hD1 hvm hz1 hPc hDc hFc
  generalize H1 = H at hP hS ⊢
  refine W.widen (k := 11 + (kk + 1)) (n := 8761 + 6 * (kk + 1)) (by omega) (by omega) ?_
  have hP : va_P (dC, dI) vwCl (wL cI cJ b1 b0 bw bq bf g0 gr gl gw gs bo w en pl cu li ld fb v4 rw mn at_ ml md_l wd md sm fr no v2) H := hP
  have hD : va_D A (wL cI cJ b1 b0 bw bq bf g0 gr gl gw gs bo w en pl cu li ld fb v4 rw mn at_ ml md_l wd md sm fr no v2) := hD
  refine lv_lstore (lv' := [(6, .long v3), (5, .int v1), (0, .ref b), (1, .ref b1), (2, .ref g0), (3, .ref bo), (4, .int (nI i))]) hx hb dL_law_215 hl (by decide) rfl (fun ls hl => ?_)
  refine lv_aload_n hx hb dL_law_217 rfl (lv_at hl 4 rfl) ?_
  obtain ⟨v5, hc, hj⟩ := ja_bd hj
  try dsimp only at hj
  have hPc := hP.sub (ws' := (wM cI cJ g0 gr gl gw gs v4 rw mn at_ ml md_l wd md sm fr no)) [5, 6, 7, 8, 9] rfl
  have hDc := hD.sub (ws' := (wM cI cJ g0 gr gl gw gs v4 rw mn at_ ml md_l wd md sm fr no)) [5, 6, 7, 8, 9] (by decide) rfl
  have hFc := va_free (wc := (wM cI cJ g0 gr gl gw gs v4 rw mn at_ ml md_l wd md sm fr no)) hD hS hA [5, 6, 7, 8, 9] rfl
  refine va_calli (va_runV (As := []) (rest := []) ⟨hx, hb, hml, hown, hts⟩ (c_X2_thrown l dC dI cI cJ g0 gr gl gw gs H.size v4 rw mn at_ ml md_l wd md sm fr no _ hc) (cwV 0 hts gL_law_X2_thrown rfl rfl rfl (by decide +kernel) ⟨Nat.le_of_ble_eq_true rfl, Nat.le_of_ble_eq_true rfl⟩) ⟨fun a U g mk q => ⟨q.1, jPr.blind q.2⟩, va_recv hK hPc (ci := 2) (q0 := 0) rfl rfl, fun U hU hW => ⟨rfl, jPr.mk hU hW hPc hK hDc⟩⟩ rfl rfl hl.1 rfl (lv_room (Nat.le_of_ble_eq_true rfl)) dL_law_218 ⟨by show _ ≤ 1043; omega, by show _ ≤ 17001; omega⟩) hS (fun q _ h => hFc q h) hFc (fun rr u t H1 locs ht hvm hw9 hB hz1 hk1 hS => ?_)
  have hw8 : v5 = rr := hw9.symm
  subst hw8
  obtain ⟨hP1, hK1, hD1⟩ := hB
  rw [ht] at hP1
  obtain ⟨hP, hD⟩ := va_join (wr := ([(b1, .inr (1, [.ref b0, .ref bq, .ref bf, .int ld])), (b0, .inr (0, [.ref bw, .int en, .int pl, .int cu])), (bw, .inl (cJ, 64, .inr (.inl w))), (bq, .inl (cJ, 100, .inr (.inl li))), (bf, .inl (cJ, 89, .inr (.inl fb))), (bo, .inl (cJ, 1, .inr (.inl v2)))] : va_W)) (w1 := (wM cI cJ g0 gr gl gw gs v4 rw mn at_ ml md_l wd md sm fr no)) hP hD [5, 6, 7, 8, 9] [0, 1, 2, 3, 4, 10] rfl rfl (by decide) (by decide) hk1 hFc hP1 hD1
  replace hP := hP.sub (ws' := (wL cI cJ b1 b0 bw bq bf g0 gr gl gw gs bo w en pl cu li ld fb v4 rw mn at_ ml md_l wd md sm fr no v2)) [0, 1, 2, 3, 4, 6, 7, 8, 9, 10, 5] rfl
  replace hD := hD.sub (ws' := (wL cI cJ b1 b0 bw bq bf g0 gr gl gw gs bo w en pl cu li ld fb v4 rw mn at_ ml md_l wd md sm fr no v2)) [0, 1, 2, 3, 4, 6, 7, 8, 9, 10, 5] (by decide) rfl
  clear hk1 hP1 hK1 hD1 hvm hz1 hPc hDc hFc
  generalize H1 = H at hP hS ⊢
  refine W.widen (k := 11 + (kk + 1)) (n := 8761 + 6 * (kk + 1)) (by omega) (by omega) ?_
  have hP : va_P (dC, dI) vwCl (wL cI cJ b1 b0 bw bq bf g0 gr gl gw gs bo w en pl cu li ld fb v4 rw mn at_ ml md_l wd md sm fr no v2) H := hP
  have hD : va_D A (wL cI cJ b1 b0 bw bq bf g0 gr gl gw gs bo w en pl cu li ld fb v4 rw mn at_ ml md_l wd md sm fr no v2) := hD
  refine lv_iload hx hb dL_law_221 (lv_at hl 1 rfl) ?_
  refine lv_icmp_eq (tgt := 228) hx hb dL_law_223 (by decide) (fun c6 => ?_) (fun c6 => ?_)
  · replace hj := ja_pos c6 hj
    refine lv_iload hx hb dL_law_228 (lv_at hl 1 rfl) ?_
    refine lv_if_ne (tgt := 244) hx hb dL_law_230 (by decide) (fun c7 => ?_) (fun c7 => ?_)
    · replace hj := ja_neg c7 hj
      refine lv_goto (tgt := 1465) hx hb dL_law_244 (by decide) ?_
      have hr9 : (w, en, pl, cu, li, ld, fb, v4, rw, mn, at_, ml, md_l, wd, md, sm, fr, no, v2) = r := Option.some.inj hj
      subst hr9
      exact hk H locs ls hP hD hS (lv_sub hl [2, 3, 4, 5, 6] rfl)
    · replace hj := ja_pos c7 hj
      refine lv_aload_n hx hb dL_law_233 rfl (lv_at hl 5 rfl) ?_
      refine lv_iconst (v := (0 : Int32)) hx hb dL_law_234 (by decide) ?_
      refine va_lald hx hb hK hP 10 1 rfl rfl (show vp_in (0 : Int32) 1 by unfold vp_in; decide) dL_law_235 ?_
      refine lv_lload hx hb dL_law_236 (lv_at hl 0 rfl) ?_
      refine W.lcmp hx hb dL_law_238 ?_
      refine lv_if_eq (tgt := 244) hx hb dL_law_239 (by decide) (fun c8 => ?_) (fun c8 => ?_)
      · replace hj := ja_pos ((lg_cmp_eq (v2 (0 : Int32).toNatClampNeg) v3).mp c8) hj
        refine lv_goto (tgt := 1465) hx hb dL_law_244 (by decide) ?_
        have hr9 : (w, en, pl, cu, li, ld, fb, v4, rw, mn, at_, ml, md_l, wd, md, sm, fr, no, v2) = r := Option.some.inj hj
        subst hr9
        exact hk H locs ls hP hD hS (lv_sub hl [2, 3, 4, 5, 6] rfl)
      · replace hj := ja_neg (fun h9 => c8 ((lg_cmp_eq (v2 (0 : Int32).toNatClampNeg) v3).mpr h9)) hj
        refine lv_iconst (v := (0 : Int32)) hx hb dL_law_242 (by decide) ?_
        cases hj
  · replace hj := ja_neg c6 hj
    refine lv_iconst (v := (0 : Int32)) hx hb dL_law_226 (by decide) ?_
    cases hj
def jC_1 (w : Nat → Int64) (en : Int32) (pl : Int32) (cu : Int32) (li : Nat → Int64) (ld : Int32) (fb : Nat → Int64) (th : Int32) (rw : Nat → Int32) (mn : Int32) (at_ : Int32) (ml : Nat → Int64) (md_l : Int32) (wd : Nat → Int32) (md : Int32) (sm : Nat → Int64) (fr : Int32) (no : Int32) (ou : Nat → Int64) (v_1 v_2 v_3 v_4 : Int32) : Option (jSt9) :=
  (j_L_put w en fb ou v_1 v_2 (((v_3.toInt64) <<< ((32 : Int32).toInt64 &&& 63)) ||| ((v_4.toInt64) &&& (4294967295 : Int64)))).bind fun (v1, v2, v3, v4) => ((j_X2_put th rw mn wd md sm v_1 v_2 (((v_3.toInt64) <<< ((32 : Int32).toInt64 &&& 63)) ||| ((v_4.toInt64) &&& (4294967295 : Int64)))).bind fun (v5, v6, v7, v8, v9, v10) => ((j_X2_thrown v6).bind fun v11 => (if v11 = v1 then (if v1 = (0 : Int32) then (if (v4 (0 : Int32).toNatClampNeg) = v5.toInt64 then (some (v2, v3, pl, cu, li, ld, fb, v6, v7, v8, at_, ml, md_l, v9, v10, sm, fr, no, v4)) else (none)) else (some (v2, v3, pl, cu, li, ld, fb, v6, v7, v8, at_, ml, md_l, v9, v10, sm, fr, no, v4))) else (none))))
set_option maxHeartbeats 4000000 in
set_option maxRecDepth 100000 in
theorem sl_1 {p : Program} {l : Launch} {e : Env} {s : State} {m : MethodId} {below : List Frame} {meth : Method} {c : Code} {dC : Nat → ClassId} {dI : Nat → Nat → Nat} {cI cJ : ClassId} {b L : Nat} {xs : Nat → Int32} (hlt : l.stackTraces = false) (C0 : sl_Cx p s m meth c b L xs) (hK : va_K (dC, dI) vwCl (jTy cI cJ) s) (hN : jNs s) (hXs : jXs (fun q : Nat => s.heap.size ≤ q) s) (hL : L ≤ 2560) (b1 : Nat) (b0 : Nat) (bw : Nat) (bq : Nat) (bf : Nat) (g0 : Nat) (gr : Nat) (gl : Nat) (gw : Nat) (gs : Nat) (bo : Nat) (w : Nat → Int64) (en : Int32) (pl : Int32) (cu : Int32) (li : Nat → Int64) (ld : Int32) (fb : Nat → Int64) (th : Int32) (rw : Nat → Int32) (mn : Int32) (at_ : Int32) (ml : Nat → Int64) (md_l : Int32) (wd : Nat → Int32) (md : Int32) (sm : Nat → Int64) (fr : Int32) (no : Int32) (ou : Nat → Int64) (i kk : Nat) (hi : i + 5 ≤ L) (hkk : kk < 512) (r : jSt9) (hj : jC_1 w en pl cu li ld fb th rw mn at_ ml md_l wd md sm fr no ou (xs (i + 1)) (xs (i + 2)) (xs (i + 3)) (xs (i + 4)) = some r)
    (hk : ∀ (H : Heap) (locs : List Loc) (ls : Array Slot), va_P (dC, dI) vwCl (wL cI cJ b1 b0 bw bq bf g0 gr gl gw gs bo r.1 r.2.1 r.2.2.1 r.2.2.2.1 r.2.2.2.2.1 r.2.2.2.2.2.1 r.2.2.2.2.2.2.1 r.2.2.2.2.2.2.2.1 r.2.2.2.2.2.2.2.2.1 r.2.2.2.2.2.2.2.2.2.1 r.2.2.2.2.2.2.2.2.2.2.1 r.2.2.2.2.2.2.2.2.2.2.2.1 r.2.2.2.2.2.2.2.2.2.2.2.2.1 r.2.2.2.2.2.2.2.2.2.2.2.2.2.1 r.2.2.2.2.2.2.2.2.2.2.2.2.2.2.1 r.2.2.2.2.2.2.2.2.2.2.2.2.2.2.2.1 r.2.2.2.2.2.2.2.2.2.2.2.2.2.2.2.2.1 r.2.2.2.2.2.2.2.2.2.2.2.2.2.2.2.2.2.1 r.2.2.2.2.2.2.2.2.2.2.2.2.2.2.2.2.2.2) H → va_D (fun q : Nat => s.heap.size ≤ q) (wL cI cJ b1 b0 bw bq bf g0 gr gl gw gs bo r.1 r.2.1 r.2.2.1 r.2.2.2.1 r.2.2.2.2.1 r.2.2.2.2.2.1 r.2.2.2.2.2.2.1 r.2.2.2.2.2.2.2.1 r.2.2.2.2.2.2.2.2.1 r.2.2.2.2.2.2.2.2.2.1 r.2.2.2.2.2.2.2.2.2.2.1 r.2.2.2.2.2.2.2.2.2.2.2.1 r.2.2.2.2.2.2.2.2.2.2.2.2.1 r.2.2.2.2.2.2.2.2.2.2.2.2.2.1 r.2.2.2.2.2.2.2.2.2.2.2.2.2.2.1 r.2.2.2.2.2.2.2.2.2.2.2.2.2.2.2.1 r.2.2.2.2.2.2.2.2.2.2.2.2.2.2.2.2.1 r.2.2.2.2.2.2.2.2.2.2.2.2.2.2.2.2.2.1 r.2.2.2.2.2.2.2.2.2.2.2.2.2.2.2.2.2.2) → va_S (fun q : Nat => s.heap.size ≤ q) s.heap H locs → lv_has ls 8 [(0, .ref b), (1, .ref b1), (2, .ref g0), (3, .ref bo), (4, .int (nI i))] → W p l e room_1 s m #[Value.ref b] below meth c H locs (11 + (kk + 1)) (8761 + 6 * (kk + 1)) (lw_Z below #[Value.ref b] s) (F0 m 1465 ls [])) :
    ∀ (H : Heap) (locs : List Loc) (ls : Array Slot), va_P (dC, dI) vwCl (wL cI cJ b1 b0 bw bq bf g0 gr gl gw gs bo w en pl cu li ld fb th rw mn at_ ml md_l wd md sm fr no ou) H → va_D (fun q : Nat => s.heap.size ≤ q) (wL cI cJ b1 b0 bw bq bf g0 gr gl gw gs bo w en pl cu li ld fb th rw mn at_ ml md_l wd md sm fr no ou) → va_S (fun q : Nat => s.heap.size ≤ q) s.heap H locs → lv_has ls 8 [(0, .ref b), (1, .ref b1), (2, .ref g0), (3, .ref bo), (4, .int (nI i))] → W p l e room_1 s m #[Value.ref b] below meth c H locs (11 + kk) (8761 + 6 * kk) (lw_Z below #[Value.ref b] s) (F0 m 247 ls []) := by
  obtain ⟨hx, hb, hr, hml, hown, hts, hX, hbl, hlocks⟩ := id C0
  have hA : ∀ q : Nat, s.heap.size ≤ q → (fun q : Nat => s.heap.size ≤ q) q := fun _ h => h
  have hbA : ¬ (fun q : Nat => s.heap.size ≤ q) b := Nat.not_le.mpr hbl
  intro H locs ls hP hD hS hl
  generalize hAe : (fun q : Nat => s.heap.size ≤ q) = A at hA hbA hXs hD hS hk ⊢
  clear hAe
  unfold jC_1 at hj
  refine lv_aload_n hx hb dL_law_247 rfl (lv_at hl 1 rfl) ?_
  refine lv_aload_n hx hb dL_law_248 rfl (lv_at hl 0 rfl) ?_
  refine lv_iload hx hb dL_law_249 (lv_at hl 4 rfl) ?_
  refine lv_iconst (v := (1 : Int32)) hx hb dL_law_251 (by decide) ?_
  refine lv_iadd hx hb dL_law_252 ?_
  refine sl_ld hx hb hX hbl hbA hS (j := i + 1) (by omega) hL (nI_add i 1) dL_law_253 ?_
  refine lv_aload_n hx hb dL_law_254 rfl (lv_at hl 0 rfl) ?_
  refine lv_iload hx hb dL_law_255 (lv_at hl 4 rfl) ?_
  refine lv_iconst (v := (2 : Int32)) hx hb dL_law_257 (by decide) ?_
  refine lv_iadd hx hb dL_law_258 ?_
  refine sl_ld hx hb hX hbl hbA hS (j := i + 2) (by omega) hL (nI_add i 2) dL_law_259 ?_
  refine lv_aload_n hx hb dL_law_260 rfl (lv_at hl 0 rfl) ?_
  refine lv_iload hx hb dL_law_261 (lv_at hl 4 rfl) ?_
  refine lv_iconst (v := (3 : Int32)) hx hb dL_law_263 (by decide) ?_
  refine lv_iadd hx hb dL_law_264 ?_
  refine sl_ld hx hb hX hbl hbA hS (j := i + 3) (by omega) hL (nI_add i 3) dL_law_265 ?_
  refine lv_i2l hx hb dL_law_266 rfl ?_
  refine lv_bipush (v := (32 : Int32)) hx hb dL_law_267 (by decide) ?_
  refine lv_lshl hx hb dL_law_269 rfl ?_
  refine lv_aload_n hx hb dL_law_270 rfl (lv_at hl 0 rfl) ?_
  refine lv_iload hx hb dL_law_271 (lv_at hl 4 rfl) ?_
  refine lv_iconst (v := (4 : Int32)) hx hb dL_law_273 (by decide) ?_
  refine lv_iadd hx hb dL_law_274 ?_
  refine sl_ld hx hb hX hbl hbA hS (j := i + 4) (by omega) hL (nI_add i 4) dL_law_275 ?_
  refine lv_i2l hx hb dL_law_276 rfl ?_
  refine lv_ldc2 (v := (4294967295 : Int64)) hx hb hown (hts (.constantLong RL 75 (4294967295)) (by decide +kernel)) dL_law_277 ?_
  refine lv_land hx hb dL_law_280 ?_
  refine lv_lor hx hb dL_law_281 ?_
  refine lv_aload_n hx hb dL_law_282 rfl (lv_at hl 3 rfl) ?_
  obtain ⟨⟨v1, v2, v3, v4⟩, hc, hj⟩ := ja_bd hj
  try dsimp only at hj
  have hPc := hP.sub (ws' := (wH cJ b1 b0 bw bq bf bo w en pl cu li ld fb ou)) [0, 1, 2, 3, 4, 10] rfl
  have hDc := hD.sub (ws' := (wH cJ b1 b0 bw bq bf bo w en pl cu li ld fb ou)) [0, 1, 2, 3, 4, 10] (by decide) rfl
  have hFc := va_free (wc := (wH cJ b1 b0 bw bq bf bo w en pl cu li ld fb ou)) hD hS hA [0, 1, 2, 3, 4, 10] rfl
  refine va_calli (vx_runSW (As := [.ref b1, .int (xs (i + 1)), .int (xs (i + 2)), .long ((((xs (i + 3)).toInt64) <<< ((32 : Int32).toInt64 &&& 63)) ||| (((xs (i + 4)).toInt64) &&& (4294967295 : Int64))), .ref bo]) (rest := []) ⟨hx, hb, hml, hown, hts⟩ (c_L_put l hlt dC dI cI cJ b1 b0 bw bq bf bo H.size w en pl cu li ld fb ou (xs (i + 1)) (xs (i + 2)) ((((xs (i + 3)).toInt64) <<< ((32 : Int32).toInt64 &&& 63)) ||| (((xs (i + 4)).toInt64) &&& (4294967295 : Int64))) _ hc) (vx_cwSW 5 hts gL_law_L_put rfl rfl rfl (by decide +kernel) ⟨Nat.le_of_ble_eq_true rfl, Nat.le_of_ble_eq_true rfl⟩) ⟨fun a U g mk q => ⟨q.1, jPr.blind q.2.1, jNs.blind q.2.2.1, jXs.blind q.2.2.2⟩, fun U hU hW => ⟨rfl, jPr.mk hU hW hPc hK hDc, jNs.warm hW hN, jXs.down hU hW hS hFc hXs⟩⟩ rfl rfl hl.1 rfl (lv_room (Nat.le_of_ble_eq_true rfl)) dL_law_283 ⟨by show _ ≤ 1043; omega, by show _ ≤ 17001; omega⟩) hS (fun q _ h => hFc q h) hFc (fun rr u t H1 locs ht hvm hw9 hB hz1 hk1 hS => ?_)
  have hw8 : v1 = rr := hw9.symm
  subst hw8
  obtain ⟨hP1, hK1, hD1⟩ := hB
  rw [ht] at hP1
  obtain ⟨hP, hD⟩ := va_join (wr := ([(g0, .inr (2, [.int th, .ref gr, .int mn, .int at_, .ref gl, .int md_l, .ref gw, .int md, .ref gs, .int fr, .int no])), (gr, .inl (cI, 4096, .inl rw)), (gl, .inl (cJ, 100, .inr (.inl ml))), (gw, .inl (cI, 4200, .inl wd)), (gs, .inl (cJ, 92, .inr (.inl sm)))] : va_W)) (w1 := (wH cJ b1 b0 bw bq bf bo v2 v3 pl cu li ld fb v4)) hP hD [0, 1, 2, 3, 4, 10] [5, 6, 7, 8, 9] rfl rfl (by decide) (by decide) hk1 hFc hP1 hD1
  replace hP := hP.sub (ws' := (wL cI cJ b1 b0 bw bq bf g0 gr gl gw gs bo v2 v3 pl cu li ld fb th rw mn at_ ml md_l wd md sm fr no v4)) [5, 6, 7, 8, 9, 0, 1, 2, 3, 4, 10] rfl
  replace hD := hD.sub (ws' := (wL cI cJ b1 b0 bw bq bf g0 gr gl gw gs bo v2 v3 pl cu li ld fb th rw mn at_ ml md_l wd md sm fr no v4)) [5, 6, 7, 8, 9, 0, 1, 2, 3, 4, 10] (by decide) rfl
  clear hk1 hP1 hK1 hD1 hvm hz1 hPc hDc hFc
  generalize H1 = H at hP hS ⊢
  refine W.widen (k := 11 + (kk + 1)) (n := 8761 + 6 * (kk + 1)) (by omega) (by omega) ?_
  have hP : va_P (dC, dI) vwCl (wL cI cJ b1 b0 bw bq bf g0 gr gl gw gs bo v2 v3 pl cu li ld fb th rw mn at_ ml md_l wd md sm fr no v4) H := hP
  have hD : va_D A (wL cI cJ b1 b0 bw bq bf g0 gr gl gw gs bo v2 v3 pl cu li ld fb th rw mn at_ ml md_l wd md sm fr no v4) := hD
  refine lv_istore (lv' := [(5, .int v1), (0, .ref b), (1, .ref b1), (2, .ref g0), (3, .ref bo), (4, .int (nI i))]) hx hb dL_law_286 hl (by decide) rfl (fun ls hl => ?_)
  refine lv_aload_n hx hb dL_law_288 rfl (lv_at hl 3 rfl) ?_
  refine lv_aload_n hx hb dL_law_289 rfl (lv_at hl 1 rfl) ?_
  refine lv_iload hx hb dL_law_290 (lv_at hl 5 rfl) ?_
  refine lv_iconst (v := (1 : Int32)) hx hb dL_law_292 (by decide) ?_
  refine lv_iadd hx hb dL_law_293 ?_
  refine sl_ld hx hb hX hbl hbA hS (j := i + 1) (by omega) hL (nI_add i 1) dL_law_294 ?_
  refine lv_aload_n hx hb dL_law_295 rfl (lv_at hl 1 rfl) ?_
  refine lv_iload hx hb dL_law_296 (lv_at hl 5 rfl) ?_
  refine lv_iconst (v := (2 : Int32)) hx hb dL_law_298 (by decide) ?_
  refine lv_iadd hx hb dL_law_299 ?_
  refine sl_ld hx hb hX hbl hbA hS (j := i + 2) (by omega) hL (nI_add i 2) dL_law_300 ?_
  refine lv_aload_n hx hb dL_law_301 rfl (lv_at hl 1 rfl) ?_
  refine lv_iload hx hb dL_law_302 (lv_at hl 5 rfl) ?_
  refine lv_iconst (v := (3 : Int32)) hx hb dL_law_304 (by decide) ?_
  refine lv_iadd hx hb dL_law_305 ?_
  refine sl_ld hx hb hX hbl hbA hS (j := i + 3) (by omega) hL (nI_add i 3) dL_law_306 ?_
  refine lv_i2l hx hb dL_law_307 rfl ?_
  refine lv_bipush (v := (32 : Int32)) hx hb dL_law_308 (by decide) ?_
  refine lv_lshl hx hb dL_law_310 rfl ?_
  refine lv_aload_n hx hb dL_law_311 rfl (lv_at hl 1 rfl) ?_
  refine lv_iload hx hb dL_law_312 (lv_at hl 5 rfl) ?_
  refine lv_iconst (v := (4 : Int32)) hx hb dL_law_314 (by decide) ?_
  refine lv_iadd hx hb dL_law_315 ?_
  refine sl_ld hx hb hX hbl hbA hS (j := i + 4) (by omega) hL (nI_add i 4) dL_law_316 ?_
  refine lv_i2l hx hb dL_law_317 rfl ?_
  refine lv_ldc2 (v := (4294967295 : Int64)) hx hb hown (hts (.constantLong RL 75 (4294967295)) (by decide +kernel)) dL_law_318 ?_
  refine lv_land hx hb dL_law_321 ?_
  refine lv_lor hx hb dL_law_322 ?_
  obtain ⟨⟨v5, v6, v7, v8, v9, v10⟩, hc, hj⟩ := ja_bd hj
  try dsimp only at hj
  have hPc := hP.sub (ws' := (wM cI cJ g0 gr gl gw gs th rw mn at_ ml md_l wd md sm fr no)) [5, 6, 7, 8, 9] rfl
  have hDc := hD.sub (ws' := (wM cI cJ g0 gr gl gw gs th rw mn at_ ml md_l wd md sm fr no)) [5, 6, 7, 8, 9] (by decide) rfl
  have hFc := va_free (wc := (wM cI cJ g0 gr gl gw gs th rw mn at_ ml md_l wd md sm fr no)) hD hS hA [5, 6, 7, 8, 9] rfl
  refine va_calli (va_runV (As := [.int (xs (i + 1)), .int (xs (i + 2)), .long ((((xs (i + 3)).toInt64) <<< ((32 : Int32).toInt64 &&& 63)) ||| (((xs (i + 4)).toInt64) &&& (4294967295 : Int64)))]) (rest := []) ⟨hx, hb, hml, hown, hts⟩ (c_X2_put l dC dI cI cJ g0 gr gl gw gs H.size th rw mn at_ ml md_l wd md sm fr no (xs (i + 1)) (xs (i + 2)) ((((xs (i + 3)).toInt64) <<< ((32 : Int32).toInt64 &&& 63)) ||| (((xs (i + 4)).toInt64) &&& (4294967295 : Int64))) _ hc) (cwV 3 hts gL_law_X2_put rfl rfl rfl (by decide +kernel) ⟨Nat.le_of_ble_eq_true rfl, Nat.le_of_ble_eq_true rfl⟩) ⟨fun a U g mk q => ⟨q.1, jPr.blind q.2⟩, va_recv hK hPc (ci := 2) (q0 := 0) rfl rfl, fun U hU hW => ⟨rfl, jPr.mk hU hW hPc hK hDc⟩⟩ rfl rfl hl.1 rfl (lv_room (Nat.le_of_ble_eq_true rfl)) dL_law_323 ⟨by show _ ≤ 1043; omega, by show _ ≤ 17001; omega⟩) hS (fun q _ h => hFc q h) hFc (fun rr u t H1 locs ht hvm hw9 hB hz1 hk1 hS => ?_)
  have hw8 : v5 = rr := hw9.symm
  subst hw8
  obtain ⟨hP1, hK1, hD1⟩ := hB
  rw [ht] at hP1
  obtain ⟨hP, hD⟩ := va_join (wr := ([(b1, .inr (1, [.ref b0, .ref bq, .ref bf, .int ld])), (b0, .inr (0, [.ref bw, .int v3, .int pl, .int cu])), (bw, .inl (cJ, 64, .inr (.inl v2))), (bq, .inl (cJ, 100, .inr (.inl li))), (bf, .inl (cJ, 89, .inr (.inl fb))), (bo, .inl (cJ, 1, .inr (.inl v4)))] : va_W)) (w1 := (wM cI cJ g0 gr gl gw gs v6 v7 v8 at_ ml md_l v9 v10 sm fr no)) hP hD [5, 6, 7, 8, 9] [0, 1, 2, 3, 4, 10] rfl rfl (by decide) (by decide) hk1 hFc hP1 hD1
  replace hP := hP.sub (ws' := (wL cI cJ b1 b0 bw bq bf g0 gr gl gw gs bo v2 v3 pl cu li ld fb v6 v7 v8 at_ ml md_l v9 v10 sm fr no v4)) [0, 1, 2, 3, 4, 6, 7, 8, 9, 10, 5] rfl
  replace hD := hD.sub (ws' := (wL cI cJ b1 b0 bw bq bf g0 gr gl gw gs bo v2 v3 pl cu li ld fb v6 v7 v8 at_ ml md_l v9 v10 sm fr no v4)) [0, 1, 2, 3, 4, 6, 7, 8, 9, 10, 5] (by decide) rfl
  clear hk1 hP1 hK1 hD1 hvm hz1 hPc hDc hFc
  generalize H1 = H at hP hS ⊢
  refine W.widen (k := 11 + (kk + 1)) (n := 8761 + 6 * (kk + 1)) (by omega) (by omega) ?_
  have hP : va_P (dC, dI) vwCl (wL cI cJ b1 b0 bw bq bf g0 gr gl gw gs bo v2 v3 pl cu li ld fb v6 v7 v8 at_ ml md_l v9 v10 sm fr no v4) H := hP
  have hD : va_D A (wL cI cJ b1 b0 bw bq bf g0 gr gl gw gs bo v2 v3 pl cu li ld fb v6 v7 v8 at_ ml md_l v9 v10 sm fr no v4) := hD
  refine lv_istore (lv' := [(6, .int v5), (5, .int v1), (0, .ref b), (1, .ref b1), (2, .ref g0), (3, .ref bo), (4, .int (nI i))]) hx hb dL_law_326 hl (by decide) rfl (fun ls hl => ?_)
  refine lv_aload_n hx hb dL_law_328 rfl (lv_at hl 4 rfl) ?_
  obtain ⟨v11, hc, hj⟩ := ja_bd hj
  try dsimp only at hj
  have hPc := hP.sub (ws' := (wM cI cJ g0 gr gl gw gs v6 v7 v8 at_ ml md_l v9 v10 sm fr no)) [5, 6, 7, 8, 9] rfl
  have hDc := hD.sub (ws' := (wM cI cJ g0 gr gl gw gs v6 v7 v8 at_ ml md_l v9 v10 sm fr no)) [5, 6, 7, 8, 9] (by decide) rfl
  have hFc := va_free (wc := (wM cI cJ g0 gr gl gw gs v6 v7 v8 at_ ml md_l v9 v10 sm fr no)) hD hS hA [5, 6, 7, 8, 9] rfl
  refine va_calli (va_runV (As := []) (rest := []) ⟨hx, hb, hml, hown, hts⟩ (c_X2_thrown l dC dI cI cJ g0 gr gl gw gs H.size v6 v7 v8 at_ ml md_l v9 v10 sm fr no _ hc) (cwV 0 hts gL_law_X2_thrown rfl rfl rfl (by decide +kernel) ⟨Nat.le_of_ble_eq_true rfl, Nat.le_of_ble_eq_true rfl⟩) ⟨fun a U g mk q => ⟨q.1, jPr.blind q.2⟩, va_recv hK hPc (ci := 2) (q0 := 0) rfl rfl, fun U hU hW => ⟨rfl, jPr.mk hU hW hPc hK hDc⟩⟩ rfl rfl hl.1 rfl (lv_room (Nat.le_of_ble_eq_true rfl)) dL_law_329 ⟨by show _ ≤ 1043; omega, by show _ ≤ 17001; omega⟩) hS (fun q _ h => hFc q h) hFc (fun rr u t H1 locs ht hvm hw9 hB hz1 hk1 hS => ?_)
  have hw8 : v11 = rr := hw9.symm
  subst hw8
  obtain ⟨hP1, hK1, hD1⟩ := hB
  rw [ht] at hP1
  obtain ⟨hP, hD⟩ := va_join (wr := ([(b1, .inr (1, [.ref b0, .ref bq, .ref bf, .int ld])), (b0, .inr (0, [.ref bw, .int v3, .int pl, .int cu])), (bw, .inl (cJ, 64, .inr (.inl v2))), (bq, .inl (cJ, 100, .inr (.inl li))), (bf, .inl (cJ, 89, .inr (.inl fb))), (bo, .inl (cJ, 1, .inr (.inl v4)))] : va_W)) (w1 := (wM cI cJ g0 gr gl gw gs v6 v7 v8 at_ ml md_l v9 v10 sm fr no)) hP hD [5, 6, 7, 8, 9] [0, 1, 2, 3, 4, 10] rfl rfl (by decide) (by decide) hk1 hFc hP1 hD1
  replace hP := hP.sub (ws' := (wL cI cJ b1 b0 bw bq bf g0 gr gl gw gs bo v2 v3 pl cu li ld fb v6 v7 v8 at_ ml md_l v9 v10 sm fr no v4)) [0, 1, 2, 3, 4, 6, 7, 8, 9, 10, 5] rfl
  replace hD := hD.sub (ws' := (wL cI cJ b1 b0 bw bq bf g0 gr gl gw gs bo v2 v3 pl cu li ld fb v6 v7 v8 at_ ml md_l v9 v10 sm fr no v4)) [0, 1, 2, 3, 4, 6, 7, 8, 9, 10, 5] (by decide) rfl
  clear hk1 hP1 hK1 hD1 hvm hz1 hPc hDc hFc
  generalize H1 = H at hP hS ⊢
  refine W.widen (k := 11 + (kk + 1)) (n := 8761 + 6 * (kk + 1)) (by omega) (by omega) ?_
  have hP : va_P (dC, dI) vwCl (wL cI cJ b1 b0 bw bq bf g0 gr gl gw gs bo v2 v3 pl cu li ld fb v6 v7 v8 at_ ml md_l v9 v10 sm fr no v4) H := hP
  have hD : va_D A (wL cI cJ b1 b0 bw bq bf g0 gr gl gw gs bo v2 v3 pl cu li ld fb v6 v7 v8 at_ ml md_l v9 v10 sm fr no v4) := hD
  refine lv_iload hx hb dL_law_332 (lv_at hl 1 rfl) ?_
  refine lv_icmp_eq (tgt := 339) hx hb dL_law_334 (by decide) (fun c12 => ?_) (fun c12 => ?_)
  · replace hj := ja_pos c12 hj
    refine lv_iload hx hb dL_law_339 (lv_at hl 1 rfl) ?_
    refine lv_if_ne (tgt := 356) hx hb dL_law_341 (by decide) (fun c13 => ?_) (fun c13 => ?_)
    · replace hj := ja_neg c13 hj
      refine lv_goto (tgt := 1465) hx hb dL_law_356 (by decide) ?_
      have hr9 : (v2, v3, pl, cu, li, ld, fb, v6, v7, v8, at_, ml, md_l, v9, v10, sm, fr, no, v4) = r := Option.some.inj hj
      subst hr9
      exact hk H locs ls hP hD hS (lv_sub hl [2, 3, 4, 5, 6] rfl)
    · replace hj := ja_pos c13 hj
      refine lv_aload_n hx hb dL_law_344 rfl (lv_at hl 5 rfl) ?_
      refine lv_iconst (v := (0 : Int32)) hx hb dL_law_345 (by decide) ?_
      refine va_lald hx hb hK hP 10 1 rfl rfl (show vp_in (0 : Int32) 1 by unfold vp_in; decide) dL_law_346 ?_
      refine lv_iload hx hb dL_law_347 (lv_at hl 0 rfl) ?_
      refine lv_i2l hx hb dL_law_349 rfl ?_
      refine W.lcmp hx hb dL_law_350 ?_
      refine lv_if_eq (tgt := 356) hx hb dL_law_351 (by decide) (fun c14 => ?_) (fun c14 => ?_)
      · replace hj := ja_pos ((lg_cmp_eq (v4 (0 : Int32).toNatClampNeg) v5.toInt64).mp c14) hj
        refine lv_goto (tgt := 1465) hx hb dL_law_356 (by decide) ?_
        have hr9 : (v2, v3, pl, cu, li, ld, fb, v6, v7, v8, at_, ml, md_l, v9, v10, sm, fr, no, v4) = r := Option.some.inj hj
        subst hr9
        exact hk H locs ls hP hD hS (lv_sub hl [2, 3, 4, 5, 6] rfl)
      · replace hj := ja_neg (fun h9 => c14 ((lg_cmp_eq (v4 (0 : Int32).toNatClampNeg) v5.toInt64).mpr h9)) hj
        refine lv_iconst (v := (0 : Int32)) hx hb dL_law_354 (by decide) ?_
        cases hj
  · replace hj := ja_neg c12 hj
    refine lv_iconst (v := (0 : Int32)) hx hb dL_law_337 (by decide) ?_
    cases hj
def jC_2 (w : Nat → Int64) (en : Int32) (pl : Int32) (cu : Int32) (li : Nat → Int64) (ld : Int32) (fb : Nat → Int64) (th : Int32) (rw : Nat → Int32) (mn : Int32) (at_ : Int32) (ml : Nat → Int64) (md_l : Int32) (wd : Nat → Int32) (md : Int32) (sm : Nat → Int64) (fr : Int32) (no : Int32) (ou : Nat → Int64) (v_1 v_2 v_3 v_4 : Int32) : Option (jSt9) :=
  (j_L_take w en pl cu fb ou v_1 v_2).bind fun (v1, v2, v3, v4) => ((j_X2_take th rw mn at_ sm fr no v_1 v_2).bind fun (v5, v6, v7, v8, v9) => ((j_X2_thrown v6).bind fun v10 => (if v10 = v1 then (if v1 = (0 : Int32) then (if (v4 (0 : Int32).toNatClampNeg) = v5 then (some (w, en, v2, v3, li, ld, fb, v6, rw, mn, v7, ml, md_l, wd, md, sm, v8, v9, v4)) else (none)) else (some (w, en, v2, v3, li, ld, fb, v6, rw, mn, v7, ml, md_l, wd, md, sm, v8, v9, v4))) else (none))))
set_option maxHeartbeats 4000000 in
set_option maxRecDepth 100000 in
theorem sl_2 {p : Program} {l : Launch} {e : Env} {s : State} {m : MethodId} {below : List Frame} {meth : Method} {c : Code} {dC : Nat → ClassId} {dI : Nat → Nat → Nat} {cI cJ : ClassId} {b L : Nat} {xs : Nat → Int32} (hlt : l.stackTraces = false) (C0 : sl_Cx p s m meth c b L xs) (hK : va_K (dC, dI) vwCl (jTy cI cJ) s) (hN : jNs s) (hXs : jXs (fun q : Nat => s.heap.size ≤ q) s) (hL : L ≤ 2560) (b1 : Nat) (b0 : Nat) (bw : Nat) (bq : Nat) (bf : Nat) (g0 : Nat) (gr : Nat) (gl : Nat) (gw : Nat) (gs : Nat) (bo : Nat) (w : Nat → Int64) (en : Int32) (pl : Int32) (cu : Int32) (li : Nat → Int64) (ld : Int32) (fb : Nat → Int64) (th : Int32) (rw : Nat → Int32) (mn : Int32) (at_ : Int32) (ml : Nat → Int64) (md_l : Int32) (wd : Nat → Int32) (md : Int32) (sm : Nat → Int64) (fr : Int32) (no : Int32) (ou : Nat → Int64) (i kk : Nat) (hi : i + 5 ≤ L) (hkk : kk < 512) (r : jSt9) (hj : jC_2 w en pl cu li ld fb th rw mn at_ ml md_l wd md sm fr no ou (xs (i + 1)) (xs (i + 2)) (xs (i + 3)) (xs (i + 4)) = some r)
    (hk : ∀ (H : Heap) (locs : List Loc) (ls : Array Slot), va_P (dC, dI) vwCl (wL cI cJ b1 b0 bw bq bf g0 gr gl gw gs bo r.1 r.2.1 r.2.2.1 r.2.2.2.1 r.2.2.2.2.1 r.2.2.2.2.2.1 r.2.2.2.2.2.2.1 r.2.2.2.2.2.2.2.1 r.2.2.2.2.2.2.2.2.1 r.2.2.2.2.2.2.2.2.2.1 r.2.2.2.2.2.2.2.2.2.2.1 r.2.2.2.2.2.2.2.2.2.2.2.1 r.2.2.2.2.2.2.2.2.2.2.2.2.1 r.2.2.2.2.2.2.2.2.2.2.2.2.2.1 r.2.2.2.2.2.2.2.2.2.2.2.2.2.2.1 r.2.2.2.2.2.2.2.2.2.2.2.2.2.2.2.1 r.2.2.2.2.2.2.2.2.2.2.2.2.2.2.2.2.1 r.2.2.2.2.2.2.2.2.2.2.2.2.2.2.2.2.2.1 r.2.2.2.2.2.2.2.2.2.2.2.2.2.2.2.2.2.2) H → va_D (fun q : Nat => s.heap.size ≤ q) (wL cI cJ b1 b0 bw bq bf g0 gr gl gw gs bo r.1 r.2.1 r.2.2.1 r.2.2.2.1 r.2.2.2.2.1 r.2.2.2.2.2.1 r.2.2.2.2.2.2.1 r.2.2.2.2.2.2.2.1 r.2.2.2.2.2.2.2.2.1 r.2.2.2.2.2.2.2.2.2.1 r.2.2.2.2.2.2.2.2.2.2.1 r.2.2.2.2.2.2.2.2.2.2.2.1 r.2.2.2.2.2.2.2.2.2.2.2.2.1 r.2.2.2.2.2.2.2.2.2.2.2.2.2.1 r.2.2.2.2.2.2.2.2.2.2.2.2.2.2.1 r.2.2.2.2.2.2.2.2.2.2.2.2.2.2.2.1 r.2.2.2.2.2.2.2.2.2.2.2.2.2.2.2.2.1 r.2.2.2.2.2.2.2.2.2.2.2.2.2.2.2.2.2.1 r.2.2.2.2.2.2.2.2.2.2.2.2.2.2.2.2.2.2) → va_S (fun q : Nat => s.heap.size ≤ q) s.heap H locs → lv_has ls 8 [(0, .ref b), (1, .ref b1), (2, .ref g0), (3, .ref bo), (4, .int (nI i))] → W p l e room_1 s m #[Value.ref b] below meth c H locs (11 + (kk + 1)) (8761 + 6 * (kk + 1)) (lw_Z below #[Value.ref b] s) (F0 m 1465 ls [])) :
    ∀ (H : Heap) (locs : List Loc) (ls : Array Slot), va_P (dC, dI) vwCl (wL cI cJ b1 b0 bw bq bf g0 gr gl gw gs bo w en pl cu li ld fb th rw mn at_ ml md_l wd md sm fr no ou) H → va_D (fun q : Nat => s.heap.size ≤ q) (wL cI cJ b1 b0 bw bq bf g0 gr gl gw gs bo w en pl cu li ld fb th rw mn at_ ml md_l wd md sm fr no ou) → va_S (fun q : Nat => s.heap.size ≤ q) s.heap H locs → lv_has ls 8 [(0, .ref b), (1, .ref b1), (2, .ref g0), (3, .ref bo), (4, .int (nI i))] → W p l e room_1 s m #[Value.ref b] below meth c H locs (11 + kk) (8761 + 6 * kk) (lw_Z below #[Value.ref b] s) (F0 m 359 ls []) := by
  obtain ⟨hx, hb, hr, hml, hown, hts, hX, hbl, hlocks⟩ := id C0
  have hA : ∀ q : Nat, s.heap.size ≤ q → (fun q : Nat => s.heap.size ≤ q) q := fun _ h => h
  have hbA : ¬ (fun q : Nat => s.heap.size ≤ q) b := Nat.not_le.mpr hbl
  intro H locs ls hP hD hS hl
  generalize hAe : (fun q : Nat => s.heap.size ≤ q) = A at hA hbA hXs hD hS hk ⊢
  clear hAe
  unfold jC_2 at hj
  refine lv_aload_n hx hb dL_law_359 rfl (lv_at hl 1 rfl) ?_
  refine lv_aload_n hx hb dL_law_360 rfl (lv_at hl 0 rfl) ?_
  refine lv_iload hx hb dL_law_361 (lv_at hl 4 rfl) ?_
  refine lv_iconst (v := (1 : Int32)) hx hb dL_law_363 (by decide) ?_
  refine lv_iadd hx hb dL_law_364 ?_
  refine sl_ld hx hb hX hbl hbA hS (j := i + 1) (by omega) hL (nI_add i 1) dL_law_365 ?_
  refine lv_aload_n hx hb dL_law_366 rfl (lv_at hl 0 rfl) ?_
  refine lv_iload hx hb dL_law_367 (lv_at hl 4 rfl) ?_
  refine lv_iconst (v := (2 : Int32)) hx hb dL_law_369 (by decide) ?_
  refine lv_iadd hx hb dL_law_370 ?_
  refine sl_ld hx hb hX hbl hbA hS (j := i + 2) (by omega) hL (nI_add i 2) dL_law_371 ?_
  refine lv_aload_n hx hb dL_law_372 rfl (lv_at hl 3 rfl) ?_
  obtain ⟨⟨v1, v2, v3, v4⟩, hc, hj⟩ := ja_bd hj
  try dsimp only at hj
  have hPc := hP.sub (ws' := (wH cJ b1 b0 bw bq bf bo w en pl cu li ld fb ou)) [0, 1, 2, 3, 4, 10] rfl
  have hDc := hD.sub (ws' := (wH cJ b1 b0 bw bq bf bo w en pl cu li ld fb ou)) [0, 1, 2, 3, 4, 10] (by decide) rfl
  have hFc := va_free (wc := (wH cJ b1 b0 bw bq bf bo w en pl cu li ld fb ou)) hD hS hA [0, 1, 2, 3, 4, 10] rfl
  refine va_calli (vx_runSW (As := [.ref b1, .int (xs (i + 1)), .int (xs (i + 2)), .ref bo]) (rest := []) ⟨hx, hb, hml, hown, hts⟩ (c_L_take l hlt dC dI cI cJ b1 b0 bw bq bf bo H.size w en pl cu li ld fb ou (xs (i + 1)) (xs (i + 2)) _ hc) (vx_cwSW 4 hts gL_law_L_take rfl rfl rfl (by decide +kernel) ⟨Nat.le_of_ble_eq_true rfl, Nat.le_of_ble_eq_true rfl⟩) ⟨fun a U g mk q => ⟨q.1, jPr.blind q.2.1, jNs.blind q.2.2.1, jXs.blind q.2.2.2⟩, fun U hU hW => ⟨rfl, jPr.mk hU hW hPc hK hDc, jNs.warm hW hN, jXs.down hU hW hS hFc hXs⟩⟩ rfl rfl hl.1 rfl (lv_room (Nat.le_of_ble_eq_true rfl)) dL_law_373 ⟨by show _ ≤ 1043; omega, by show _ ≤ 17001; omega⟩) hS (fun q _ h => hFc q h) hFc (fun rr u t H1 locs ht hvm hw9 hB hz1 hk1 hS => ?_)
  have hw8 : v1 = rr := hw9.symm
  subst hw8
  obtain ⟨hP1, hK1, hD1⟩ := hB
  rw [ht] at hP1
  obtain ⟨hP, hD⟩ := va_join (wr := ([(g0, .inr (2, [.int th, .ref gr, .int mn, .int at_, .ref gl, .int md_l, .ref gw, .int md, .ref gs, .int fr, .int no])), (gr, .inl (cI, 4096, .inl rw)), (gl, .inl (cJ, 100, .inr (.inl ml))), (gw, .inl (cI, 4200, .inl wd)), (gs, .inl (cJ, 92, .inr (.inl sm)))] : va_W)) (w1 := (wH cJ b1 b0 bw bq bf bo w en v2 v3 li ld fb v4)) hP hD [0, 1, 2, 3, 4, 10] [5, 6, 7, 8, 9] rfl rfl (by decide) (by decide) hk1 hFc hP1 hD1
  replace hP := hP.sub (ws' := (wL cI cJ b1 b0 bw bq bf g0 gr gl gw gs bo w en v2 v3 li ld fb th rw mn at_ ml md_l wd md sm fr no v4)) [5, 6, 7, 8, 9, 0, 1, 2, 3, 4, 10] rfl
  replace hD := hD.sub (ws' := (wL cI cJ b1 b0 bw bq bf g0 gr gl gw gs bo w en v2 v3 li ld fb th rw mn at_ ml md_l wd md sm fr no v4)) [5, 6, 7, 8, 9, 0, 1, 2, 3, 4, 10] (by decide) rfl
  clear hk1 hP1 hK1 hD1 hvm hz1 hPc hDc hFc
  generalize H1 = H at hP hS ⊢
  refine W.widen (k := 11 + (kk + 1)) (n := 8761 + 6 * (kk + 1)) (by omega) (by omega) ?_
  have hP : va_P (dC, dI) vwCl (wL cI cJ b1 b0 bw bq bf g0 gr gl gw gs bo w en v2 v3 li ld fb th rw mn at_ ml md_l wd md sm fr no v4) H := hP
  have hD : va_D A (wL cI cJ b1 b0 bw bq bf g0 gr gl gw gs bo w en v2 v3 li ld fb th rw mn at_ ml md_l wd md sm fr no v4) := hD
  refine lv_istore (lv' := [(5, .int v1), (0, .ref b), (1, .ref b1), (2, .ref g0), (3, .ref bo), (4, .int (nI i))]) hx hb dL_law_376 hl (by decide) rfl (fun ls hl => ?_)
  refine lv_aload_n hx hb dL_law_378 rfl (lv_at hl 3 rfl) ?_
  refine lv_aload_n hx hb dL_law_379 rfl (lv_at hl 1 rfl) ?_
  refine lv_iload hx hb dL_law_380 (lv_at hl 5 rfl) ?_
  refine lv_iconst (v := (1 : Int32)) hx hb dL_law_382 (by decide) ?_
  refine lv_iadd hx hb dL_law_383 ?_
  refine sl_ld hx hb hX hbl hbA hS (j := i + 1) (by omega) hL (nI_add i 1) dL_law_384 ?_
  refine lv_aload_n hx hb dL_law_385 rfl (lv_at hl 1 rfl) ?_
  refine lv_iload hx hb dL_law_386 (lv_at hl 5 rfl) ?_
  refine lv_iconst (v := (2 : Int32)) hx hb dL_law_388 (by decide) ?_
  refine lv_iadd hx hb dL_law_389 ?_
  refine sl_ld hx hb hX hbl hbA hS (j := i + 2) (by omega) hL (nI_add i 2) dL_law_390 ?_
  obtain ⟨⟨v5, v6, v7, v8, v9⟩, hc, hj⟩ := ja_bd hj
  try dsimp only at hj
  have hPc := hP.sub (ws' := (wM cI cJ g0 gr gl gw gs th rw mn at_ ml md_l wd md sm fr no)) [5, 6, 7, 8, 9] rfl
  have hDc := hD.sub (ws' := (wM cI cJ g0 gr gl gw gs th rw mn at_ ml md_l wd md sm fr no)) [5, 6, 7, 8, 9] (by decide) rfl
  have hFc := va_free (wc := (wM cI cJ g0 gr gl gw gs th rw mn at_ ml md_l wd md sm fr no)) hD hS hA [5, 6, 7, 8, 9] rfl
  refine va_calll (va_runV (As := [.int (xs (i + 1)), .int (xs (i + 2))]) (rest := []) ⟨hx, hb, hml, hown, hts⟩ (c_X2_take l dC dI cI cJ g0 gr gl gw gs H.size th rw mn at_ ml md_l wd md sm fr no (xs (i + 1)) (xs (i + 2)) _ hc) (cwV 2 hts gL_law_X2_take rfl rfl rfl (by decide +kernel) ⟨Nat.le_of_ble_eq_true rfl, Nat.le_of_ble_eq_true rfl⟩) ⟨fun a U g mk q => ⟨q.1, jPr.blind q.2⟩, va_recv hK hPc (ci := 2) (q0 := 0) rfl rfl, fun U hU hW => ⟨rfl, jPr.mk hU hW hPc hK hDc⟩⟩ rfl rfl hl.1 rfl (lv_room (Nat.le_of_ble_eq_true rfl)) dL_law_391 ⟨by show _ ≤ 1043; omega, by show _ ≤ 17001; omega⟩) hS (fun q _ h => hFc q h) hFc (fun rr u t H1 locs ht hvm hw9 hB hz1 hk1 hS => ?_)
  have hw8 : v5 = rr := hw9.symm
  subst hw8
  obtain ⟨hP1, hK1, hD1⟩ := hB
  rw [ht] at hP1
  obtain ⟨hP, hD⟩ := va_join (wr := ([(b1, .inr (1, [.ref b0, .ref bq, .ref bf, .int ld])), (b0, .inr (0, [.ref bw, .int en, .int v2, .int v3])), (bw, .inl (cJ, 64, .inr (.inl w))), (bq, .inl (cJ, 100, .inr (.inl li))), (bf, .inl (cJ, 89, .inr (.inl fb))), (bo, .inl (cJ, 1, .inr (.inl v4)))] : va_W)) (w1 := (wM cI cJ g0 gr gl gw gs v6 rw mn v7 ml md_l wd md sm v8 v9)) hP hD [5, 6, 7, 8, 9] [0, 1, 2, 3, 4, 10] rfl rfl (by decide) (by decide) hk1 hFc hP1 hD1
  replace hP := hP.sub (ws' := (wL cI cJ b1 b0 bw bq bf g0 gr gl gw gs bo w en v2 v3 li ld fb v6 rw mn v7 ml md_l wd md sm v8 v9 v4)) [0, 1, 2, 3, 4, 6, 7, 8, 9, 10, 5] rfl
  replace hD := hD.sub (ws' := (wL cI cJ b1 b0 bw bq bf g0 gr gl gw gs bo w en v2 v3 li ld fb v6 rw mn v7 ml md_l wd md sm v8 v9 v4)) [0, 1, 2, 3, 4, 6, 7, 8, 9, 10, 5] (by decide) rfl
  clear hk1 hP1 hK1 hD1 hvm hz1 hPc hDc hFc
  generalize H1 = H at hP hS ⊢
  refine W.widen (k := 11 + (kk + 1)) (n := 8761 + 6 * (kk + 1)) (by omega) (by omega) ?_
  have hP : va_P (dC, dI) vwCl (wL cI cJ b1 b0 bw bq bf g0 gr gl gw gs bo w en v2 v3 li ld fb v6 rw mn v7 ml md_l wd md sm v8 v9 v4) H := hP
  have hD : va_D A (wL cI cJ b1 b0 bw bq bf g0 gr gl gw gs bo w en v2 v3 li ld fb v6 rw mn v7 ml md_l wd md sm v8 v9 v4) := hD
  refine lv_lstore (lv' := [(6, .long v5), (5, .int v1), (0, .ref b), (1, .ref b1), (2, .ref g0), (3, .ref bo), (4, .int (nI i))]) hx hb dL_law_394 hl (by decide) rfl (fun ls hl => ?_)
  refine lv_aload_n hx hb dL_law_396 rfl (lv_at hl 4 rfl) ?_
  obtain ⟨v10, hc, hj⟩ := ja_bd hj
  try dsimp only at hj
  have hPc := hP.sub (ws' := (wM cI cJ g0 gr gl gw gs v6 rw mn v7 ml md_l wd md sm v8 v9)) [5, 6, 7, 8, 9] rfl
  have hDc := hD.sub (ws' := (wM cI cJ g0 gr gl gw gs v6 rw mn v7 ml md_l wd md sm v8 v9)) [5, 6, 7, 8, 9] (by decide) rfl
  have hFc := va_free (wc := (wM cI cJ g0 gr gl gw gs v6 rw mn v7 ml md_l wd md sm v8 v9)) hD hS hA [5, 6, 7, 8, 9] rfl
  refine va_calli (va_runV (As := []) (rest := []) ⟨hx, hb, hml, hown, hts⟩ (c_X2_thrown l dC dI cI cJ g0 gr gl gw gs H.size v6 rw mn v7 ml md_l wd md sm v8 v9 _ hc) (cwV 0 hts gL_law_X2_thrown rfl rfl rfl (by decide +kernel) ⟨Nat.le_of_ble_eq_true rfl, Nat.le_of_ble_eq_true rfl⟩) ⟨fun a U g mk q => ⟨q.1, jPr.blind q.2⟩, va_recv hK hPc (ci := 2) (q0 := 0) rfl rfl, fun U hU hW => ⟨rfl, jPr.mk hU hW hPc hK hDc⟩⟩ rfl rfl hl.1 rfl (lv_room (Nat.le_of_ble_eq_true rfl)) dL_law_397 ⟨by show _ ≤ 1043; omega, by show _ ≤ 17001; omega⟩) hS (fun q _ h => hFc q h) hFc (fun rr u t H1 locs ht hvm hw9 hB hz1 hk1 hS => ?_)
  have hw8 : v10 = rr := hw9.symm
  subst hw8
  obtain ⟨hP1, hK1, hD1⟩ := hB
  rw [ht] at hP1
  obtain ⟨hP, hD⟩ := va_join (wr := ([(b1, .inr (1, [.ref b0, .ref bq, .ref bf, .int ld])), (b0, .inr (0, [.ref bw, .int en, .int v2, .int v3])), (bw, .inl (cJ, 64, .inr (.inl w))), (bq, .inl (cJ, 100, .inr (.inl li))), (bf, .inl (cJ, 89, .inr (.inl fb))), (bo, .inl (cJ, 1, .inr (.inl v4)))] : va_W)) (w1 := (wM cI cJ g0 gr gl gw gs v6 rw mn v7 ml md_l wd md sm v8 v9)) hP hD [5, 6, 7, 8, 9] [0, 1, 2, 3, 4, 10] rfl rfl (by decide) (by decide) hk1 hFc hP1 hD1
  replace hP := hP.sub (ws' := (wL cI cJ b1 b0 bw bq bf g0 gr gl gw gs bo w en v2 v3 li ld fb v6 rw mn v7 ml md_l wd md sm v8 v9 v4)) [0, 1, 2, 3, 4, 6, 7, 8, 9, 10, 5] rfl
  replace hD := hD.sub (ws' := (wL cI cJ b1 b0 bw bq bf g0 gr gl gw gs bo w en v2 v3 li ld fb v6 rw mn v7 ml md_l wd md sm v8 v9 v4)) [0, 1, 2, 3, 4, 6, 7, 8, 9, 10, 5] (by decide) rfl
  clear hk1 hP1 hK1 hD1 hvm hz1 hPc hDc hFc
  generalize H1 = H at hP hS ⊢
  refine W.widen (k := 11 + (kk + 1)) (n := 8761 + 6 * (kk + 1)) (by omega) (by omega) ?_
  have hP : va_P (dC, dI) vwCl (wL cI cJ b1 b0 bw bq bf g0 gr gl gw gs bo w en v2 v3 li ld fb v6 rw mn v7 ml md_l wd md sm v8 v9 v4) H := hP
  have hD : va_D A (wL cI cJ b1 b0 bw bq bf g0 gr gl gw gs bo w en v2 v3 li ld fb v6 rw mn v7 ml md_l wd md sm v8 v9 v4) := hD
  refine lv_iload hx hb dL_law_400 (lv_at hl 1 rfl) ?_
  refine lv_icmp_eq (tgt := 407) hx hb dL_law_402 (by decide) (fun c11 => ?_) (fun c11 => ?_)
  · replace hj := ja_pos c11 hj
    refine lv_iload hx hb dL_law_407 (lv_at hl 1 rfl) ?_
    refine lv_if_ne (tgt := 423) hx hb dL_law_409 (by decide) (fun c12 => ?_) (fun c12 => ?_)
    · replace hj := ja_neg c12 hj
      refine lv_goto (tgt := 1465) hx hb dL_law_423 (by decide) ?_
      have hr9 : (w, en, v2, v3, li, ld, fb, v6, rw, mn, v7, ml, md_l, wd, md, sm, v8, v9, v4) = r := Option.some.inj hj
      subst hr9
      exact hk H locs ls hP hD hS (lv_sub hl [2, 3, 4, 5, 6] rfl)
    · replace hj := ja_pos c12 hj
      refine lv_aload_n hx hb dL_law_412 rfl (lv_at hl 5 rfl) ?_
      refine lv_iconst (v := (0 : Int32)) hx hb dL_law_413 (by decide) ?_
      refine va_lald hx hb hK hP 10 1 rfl rfl (show vp_in (0 : Int32) 1 by unfold vp_in; decide) dL_law_414 ?_
      refine lv_lload hx hb dL_law_415 (lv_at hl 0 rfl) ?_
      refine W.lcmp hx hb dL_law_417 ?_
      refine lv_if_eq (tgt := 423) hx hb dL_law_418 (by decide) (fun c13 => ?_) (fun c13 => ?_)
      · replace hj := ja_pos ((lg_cmp_eq (v4 (0 : Int32).toNatClampNeg) v5).mp c13) hj
        refine lv_goto (tgt := 1465) hx hb dL_law_423 (by decide) ?_
        have hr9 : (w, en, v2, v3, li, ld, fb, v6, rw, mn, v7, ml, md_l, wd, md, sm, v8, v9, v4) = r := Option.some.inj hj
        subst hr9
        exact hk H locs ls hP hD hS (lv_sub hl [2, 3, 4, 5, 6] rfl)
      · replace hj := ja_neg (fun h9 => c13 ((lg_cmp_eq (v4 (0 : Int32).toNatClampNeg) v5).mpr h9)) hj
        refine lv_iconst (v := (0 : Int32)) hx hb dL_law_421 (by decide) ?_
        cases hj
  · replace hj := ja_neg c11 hj
    refine lv_iconst (v := (0 : Int32)) hx hb dL_law_405 (by decide) ?_
    cases hj
def jC_3 (w : Nat → Int64) (en : Int32) (pl : Int32) (cu : Int32) (li : Nat → Int64) (ld : Int32) (fb : Nat → Int64) (th : Int32) (rw : Nat → Int32) (mn : Int32) (at_ : Int32) (ml : Nat → Int64) (md_l : Int32) (wd : Nat → Int32) (md : Int32) (sm : Nat → Int64) (fr : Int32) (no : Int32) (ou : Nat → Int64) (v_1 v_2 v_3 v_4 : Int32) : Option (jSt9) :=
  (j_L_push w en ou (((v_1.toInt64) <<< ((32 : Int32).toInt64 &&& 63)) ||| ((v_2.toInt64) &&& (4294967295 : Int64))) v_3).bind fun (v1, v2, v3, v4) => ((j_X2_push th rw mn (((v_1.toInt64) <<< ((32 : Int32).toInt64 &&& 63)) ||| ((v_2.toInt64) &&& (4294967295 : Int64))) v_3).bind fun (v5, v6, v7, v8) => ((j_X2_thrown v6).bind fun v9 => (if v9 = v1 then (if v1 = (0 : Int32) then (if (v4 (0 : Int32).toNatClampNeg) = v5.toInt64 then (some (v2, v3, pl, cu, li, ld, fb, v6, v7, v8, at_, ml, md_l, wd, md, sm, fr, no, v4)) else (none)) else (some (v2, v3, pl, cu, li, ld, fb, v6, v7, v8, at_, ml, md_l, wd, md, sm, fr, no, v4))) else (none))))
set_option maxHeartbeats 4000000 in
set_option maxRecDepth 100000 in
theorem sl_3 {p : Program} {l : Launch} {e : Env} {s : State} {m : MethodId} {below : List Frame} {meth : Method} {c : Code} {dC : Nat → ClassId} {dI : Nat → Nat → Nat} {cI cJ : ClassId} {b L : Nat} {xs : Nat → Int32} (hlt : l.stackTraces = false) (C0 : sl_Cx p s m meth c b L xs) (hK : va_K (dC, dI) vwCl (jTy cI cJ) s) (hN : jNs s) (hXs : jXs (fun q : Nat => s.heap.size ≤ q) s) (hL : L ≤ 2560) (b1 : Nat) (b0 : Nat) (bw : Nat) (bq : Nat) (bf : Nat) (g0 : Nat) (gr : Nat) (gl : Nat) (gw : Nat) (gs : Nat) (bo : Nat) (w : Nat → Int64) (en : Int32) (pl : Int32) (cu : Int32) (li : Nat → Int64) (ld : Int32) (fb : Nat → Int64) (th : Int32) (rw : Nat → Int32) (mn : Int32) (at_ : Int32) (ml : Nat → Int64) (md_l : Int32) (wd : Nat → Int32) (md : Int32) (sm : Nat → Int64) (fr : Int32) (no : Int32) (ou : Nat → Int64) (i kk : Nat) (hi : i + 5 ≤ L) (hkk : kk < 512) (r : jSt9) (hj : jC_3 w en pl cu li ld fb th rw mn at_ ml md_l wd md sm fr no ou (xs (i + 1)) (xs (i + 2)) (xs (i + 3)) (xs (i + 4)) = some r)
    (hk : ∀ (H : Heap) (locs : List Loc) (ls : Array Slot), va_P (dC, dI) vwCl (wL cI cJ b1 b0 bw bq bf g0 gr gl gw gs bo r.1 r.2.1 r.2.2.1 r.2.2.2.1 r.2.2.2.2.1 r.2.2.2.2.2.1 r.2.2.2.2.2.2.1 r.2.2.2.2.2.2.2.1 r.2.2.2.2.2.2.2.2.1 r.2.2.2.2.2.2.2.2.2.1 r.2.2.2.2.2.2.2.2.2.2.1 r.2.2.2.2.2.2.2.2.2.2.2.1 r.2.2.2.2.2.2.2.2.2.2.2.2.1 r.2.2.2.2.2.2.2.2.2.2.2.2.2.1 r.2.2.2.2.2.2.2.2.2.2.2.2.2.2.1 r.2.2.2.2.2.2.2.2.2.2.2.2.2.2.2.1 r.2.2.2.2.2.2.2.2.2.2.2.2.2.2.2.2.1 r.2.2.2.2.2.2.2.2.2.2.2.2.2.2.2.2.2.1 r.2.2.2.2.2.2.2.2.2.2.2.2.2.2.2.2.2.2) H → va_D (fun q : Nat => s.heap.size ≤ q) (wL cI cJ b1 b0 bw bq bf g0 gr gl gw gs bo r.1 r.2.1 r.2.2.1 r.2.2.2.1 r.2.2.2.2.1 r.2.2.2.2.2.1 r.2.2.2.2.2.2.1 r.2.2.2.2.2.2.2.1 r.2.2.2.2.2.2.2.2.1 r.2.2.2.2.2.2.2.2.2.1 r.2.2.2.2.2.2.2.2.2.2.1 r.2.2.2.2.2.2.2.2.2.2.2.1 r.2.2.2.2.2.2.2.2.2.2.2.2.1 r.2.2.2.2.2.2.2.2.2.2.2.2.2.1 r.2.2.2.2.2.2.2.2.2.2.2.2.2.2.1 r.2.2.2.2.2.2.2.2.2.2.2.2.2.2.2.1 r.2.2.2.2.2.2.2.2.2.2.2.2.2.2.2.2.1 r.2.2.2.2.2.2.2.2.2.2.2.2.2.2.2.2.2.1 r.2.2.2.2.2.2.2.2.2.2.2.2.2.2.2.2.2.2) → va_S (fun q : Nat => s.heap.size ≤ q) s.heap H locs → lv_has ls 8 [(0, .ref b), (1, .ref b1), (2, .ref g0), (3, .ref bo), (4, .int (nI i))] → W p l e room_1 s m #[Value.ref b] below meth c H locs (11 + (kk + 1)) (8761 + 6 * (kk + 1)) (lw_Z below #[Value.ref b] s) (F0 m 1465 ls [])) :
    ∀ (H : Heap) (locs : List Loc) (ls : Array Slot), va_P (dC, dI) vwCl (wL cI cJ b1 b0 bw bq bf g0 gr gl gw gs bo w en pl cu li ld fb th rw mn at_ ml md_l wd md sm fr no ou) H → va_D (fun q : Nat => s.heap.size ≤ q) (wL cI cJ b1 b0 bw bq bf g0 gr gl gw gs bo w en pl cu li ld fb th rw mn at_ ml md_l wd md sm fr no ou) → va_S (fun q : Nat => s.heap.size ≤ q) s.heap H locs → lv_has ls 8 [(0, .ref b), (1, .ref b1), (2, .ref g0), (3, .ref bo), (4, .int (nI i))] → W p l e room_1 s m #[Value.ref b] below meth c H locs (11 + kk) (8761 + 6 * kk) (lw_Z below #[Value.ref b] s) (F0 m 426 ls []) := by
  obtain ⟨hx, hb, hr, hml, hown, hts, hX, hbl, hlocks⟩ := id C0
  have hA : ∀ q : Nat, s.heap.size ≤ q → (fun q : Nat => s.heap.size ≤ q) q := fun _ h => h
  have hbA : ¬ (fun q : Nat => s.heap.size ≤ q) b := Nat.not_le.mpr hbl
  intro H locs ls hP hD hS hl
  generalize hAe : (fun q : Nat => s.heap.size ≤ q) = A at hA hbA hXs hD hS hk ⊢
  clear hAe
  unfold jC_3 at hj
  refine lv_aload_n hx hb dL_law_426 rfl (lv_at hl 1 rfl) ?_
  refine lv_aload_n hx hb dL_law_427 rfl (lv_at hl 0 rfl) ?_
  refine lv_iload hx hb dL_law_428 (lv_at hl 4 rfl) ?_
  refine lv_iconst (v := (1 : Int32)) hx hb dL_law_430 (by decide) ?_
  refine lv_iadd hx hb dL_law_431 ?_
  refine sl_ld hx hb hX hbl hbA hS (j := i + 1) (by omega) hL (nI_add i 1) dL_law_432 ?_
  refine lv_i2l hx hb dL_law_433 rfl ?_
  refine lv_bipush (v := (32 : Int32)) hx hb dL_law_434 (by decide) ?_
  refine lv_lshl hx hb dL_law_436 rfl ?_
  refine lv_aload_n hx hb dL_law_437 rfl (lv_at hl 0 rfl) ?_
  refine lv_iload hx hb dL_law_438 (lv_at hl 4 rfl) ?_
  refine lv_iconst (v := (2 : Int32)) hx hb dL_law_440 (by decide) ?_
  refine lv_iadd hx hb dL_law_441 ?_
  refine sl_ld hx hb hX hbl hbA hS (j := i + 2) (by omega) hL (nI_add i 2) dL_law_442 ?_
  refine lv_i2l hx hb dL_law_443 rfl ?_
  refine lv_ldc2 (v := (4294967295 : Int64)) hx hb hown (hts (.constantLong RL 75 (4294967295)) (by decide +kernel)) dL_law_444 ?_
  refine lv_land hx hb dL_law_447 ?_
  refine lv_lor hx hb dL_law_448 ?_
  refine lv_aload_n hx hb dL_law_449 rfl (lv_at hl 0 rfl) ?_
  refine lv_iload hx hb dL_law_450 (lv_at hl 4 rfl) ?_
  refine lv_iconst (v := (3 : Int32)) hx hb dL_law_452 (by decide) ?_
  refine lv_iadd hx hb dL_law_453 ?_
  refine sl_ld hx hb hX hbl hbA hS (j := i + 3) (by omega) hL (nI_add i 3) dL_law_454 ?_
  refine lv_aload_n hx hb dL_law_455 rfl (lv_at hl 3 rfl) ?_
  obtain ⟨⟨v1, v2, v3, v4⟩, hc, hj⟩ := ja_bd hj
  try dsimp only at hj
  have hPc := hP.sub (ws' := (wH cJ b1 b0 bw bq bf bo w en pl cu li ld fb ou)) [0, 1, 2, 3, 4, 10] rfl
  have hDc := hD.sub (ws' := (wH cJ b1 b0 bw bq bf bo w en pl cu li ld fb ou)) [0, 1, 2, 3, 4, 10] (by decide) rfl
  have hFc := va_free (wc := (wH cJ b1 b0 bw bq bf bo w en pl cu li ld fb ou)) hD hS hA [0, 1, 2, 3, 4, 10] rfl
  refine va_calli (vx_runSW (As := [.ref b1, .long ((((xs (i + 1)).toInt64) <<< ((32 : Int32).toInt64 &&& 63)) ||| (((xs (i + 2)).toInt64) &&& (4294967295 : Int64))), .int (xs (i + 3)), .ref bo]) (rest := []) ⟨hx, hb, hml, hown, hts⟩ (c_L_push l hlt dC dI cI cJ b1 b0 bw bq bf bo H.size w en pl cu li ld fb ou ((((xs (i + 1)).toInt64) <<< ((32 : Int32).toInt64 &&& 63)) ||| (((xs (i + 2)).toInt64) &&& (4294967295 : Int64))) (xs (i + 3)) _ hc) (vx_cwSW 4 hts gL_law_L_push rfl rfl rfl (by decide +kernel) ⟨Nat.le_of_ble_eq_true rfl, Nat.le_of_ble_eq_true rfl⟩) ⟨fun a U g mk q => ⟨q.1, jPr.blind q.2.1, jNs.blind q.2.2.1, jXs.blind q.2.2.2⟩, fun U hU hW => ⟨rfl, jPr.mk hU hW hPc hK hDc, jNs.warm hW hN, jXs.down hU hW hS hFc hXs⟩⟩ rfl rfl hl.1 rfl (lv_room (Nat.le_of_ble_eq_true rfl)) dL_law_456 ⟨by show _ ≤ 1043; omega, by show _ ≤ 17001; omega⟩) hS (fun q _ h => hFc q h) hFc (fun rr u t H1 locs ht hvm hw9 hB hz1 hk1 hS => ?_)
  have hw8 : v1 = rr := hw9.symm
  subst hw8
  obtain ⟨hP1, hK1, hD1⟩ := hB
  rw [ht] at hP1
  obtain ⟨hP, hD⟩ := va_join (wr := ([(g0, .inr (2, [.int th, .ref gr, .int mn, .int at_, .ref gl, .int md_l, .ref gw, .int md, .ref gs, .int fr, .int no])), (gr, .inl (cI, 4096, .inl rw)), (gl, .inl (cJ, 100, .inr (.inl ml))), (gw, .inl (cI, 4200, .inl wd)), (gs, .inl (cJ, 92, .inr (.inl sm)))] : va_W)) (w1 := (wH cJ b1 b0 bw bq bf bo v2 v3 pl cu li ld fb v4)) hP hD [0, 1, 2, 3, 4, 10] [5, 6, 7, 8, 9] rfl rfl (by decide) (by decide) hk1 hFc hP1 hD1
  replace hP := hP.sub (ws' := (wL cI cJ b1 b0 bw bq bf g0 gr gl gw gs bo v2 v3 pl cu li ld fb th rw mn at_ ml md_l wd md sm fr no v4)) [5, 6, 7, 8, 9, 0, 1, 2, 3, 4, 10] rfl
  replace hD := hD.sub (ws' := (wL cI cJ b1 b0 bw bq bf g0 gr gl gw gs bo v2 v3 pl cu li ld fb th rw mn at_ ml md_l wd md sm fr no v4)) [5, 6, 7, 8, 9, 0, 1, 2, 3, 4, 10] (by decide) rfl
  clear hk1 hP1 hK1 hD1 hvm hz1 hPc hDc hFc
  generalize H1 = H at hP hS ⊢
  refine W.widen (k := 11 + (kk + 1)) (n := 8761 + 6 * (kk + 1)) (by omega) (by omega) ?_
  have hP : va_P (dC, dI) vwCl (wL cI cJ b1 b0 bw bq bf g0 gr gl gw gs bo v2 v3 pl cu li ld fb th rw mn at_ ml md_l wd md sm fr no v4) H := hP
  have hD : va_D A (wL cI cJ b1 b0 bw bq bf g0 gr gl gw gs bo v2 v3 pl cu li ld fb th rw mn at_ ml md_l wd md sm fr no v4) := hD
  refine lv_istore (lv' := [(5, .int v1), (0, .ref b), (1, .ref b1), (2, .ref g0), (3, .ref bo), (4, .int (nI i))]) hx hb dL_law_459 hl (by decide) rfl (fun ls hl => ?_)
  refine lv_aload_n hx hb dL_law_461 rfl (lv_at hl 3 rfl) ?_
  refine lv_aload_n hx hb dL_law_462 rfl (lv_at hl 1 rfl) ?_
  refine lv_iload hx hb dL_law_463 (lv_at hl 5 rfl) ?_
  refine lv_iconst (v := (1 : Int32)) hx hb dL_law_465 (by decide) ?_
  refine lv_iadd hx hb dL_law_466 ?_
  refine sl_ld hx hb hX hbl hbA hS (j := i + 1) (by omega) hL (nI_add i 1) dL_law_467 ?_
  refine lv_i2l hx hb dL_law_468 rfl ?_
  refine lv_bipush (v := (32 : Int32)) hx hb dL_law_469 (by decide) ?_
  refine lv_lshl hx hb dL_law_471 rfl ?_
  refine lv_aload_n hx hb dL_law_472 rfl (lv_at hl 1 rfl) ?_
  refine lv_iload hx hb dL_law_473 (lv_at hl 5 rfl) ?_
  refine lv_iconst (v := (2 : Int32)) hx hb dL_law_475 (by decide) ?_
  refine lv_iadd hx hb dL_law_476 ?_
  refine sl_ld hx hb hX hbl hbA hS (j := i + 2) (by omega) hL (nI_add i 2) dL_law_477 ?_
  refine lv_i2l hx hb dL_law_478 rfl ?_
  refine lv_ldc2 (v := (4294967295 : Int64)) hx hb hown (hts (.constantLong RL 75 (4294967295)) (by decide +kernel)) dL_law_479 ?_
  refine lv_land hx hb dL_law_482 ?_
  refine lv_lor hx hb dL_law_483 ?_
  refine lv_aload_n hx hb dL_law_484 rfl (lv_at hl 1 rfl) ?_
  refine lv_iload hx hb dL_law_485 (lv_at hl 5 rfl) ?_
  refine lv_iconst (v := (3 : Int32)) hx hb dL_law_487 (by decide) ?_
  refine lv_iadd hx hb dL_law_488 ?_
  refine sl_ld hx hb hX hbl hbA hS (j := i + 3) (by omega) hL (nI_add i 3) dL_law_489 ?_
  obtain ⟨⟨v5, v6, v7, v8⟩, hc, hj⟩ := ja_bd hj
  try dsimp only at hj
  have hPc := hP.sub (ws' := (wM cI cJ g0 gr gl gw gs th rw mn at_ ml md_l wd md sm fr no)) [5, 6, 7, 8, 9] rfl
  have hDc := hD.sub (ws' := (wM cI cJ g0 gr gl gw gs th rw mn at_ ml md_l wd md sm fr no)) [5, 6, 7, 8, 9] (by decide) rfl
  have hFc := va_free (wc := (wM cI cJ g0 gr gl gw gs th rw mn at_ ml md_l wd md sm fr no)) hD hS hA [5, 6, 7, 8, 9] rfl
  refine va_calli (va_runV (As := [.long ((((xs (i + 1)).toInt64) <<< ((32 : Int32).toInt64 &&& 63)) ||| (((xs (i + 2)).toInt64) &&& (4294967295 : Int64))), .int (xs (i + 3))]) (rest := []) ⟨hx, hb, hml, hown, hts⟩ (c_X2_push l dC dI cI cJ g0 gr gl gw gs H.size th rw mn at_ ml md_l wd md sm fr no ((((xs (i + 1)).toInt64) <<< ((32 : Int32).toInt64 &&& 63)) ||| (((xs (i + 2)).toInt64) &&& (4294967295 : Int64))) (xs (i + 3)) _ hc) (cwV 2 hts gL_law_X2_push rfl rfl rfl (by decide +kernel) ⟨Nat.le_of_ble_eq_true rfl, Nat.le_of_ble_eq_true rfl⟩) ⟨fun a U g mk q => ⟨q.1, jPr.blind q.2⟩, va_recv hK hPc (ci := 2) (q0 := 0) rfl rfl, fun U hU hW => ⟨rfl, jPr.mk hU hW hPc hK hDc⟩⟩ rfl rfl hl.1 rfl (lv_room (Nat.le_of_ble_eq_true rfl)) dL_law_490 ⟨by show _ ≤ 1043; omega, by show _ ≤ 17001; omega⟩) hS (fun q _ h => hFc q h) hFc (fun rr u t H1 locs ht hvm hw9 hB hz1 hk1 hS => ?_)
  have hw8 : v5 = rr := hw9.symm
  subst hw8
  obtain ⟨hP1, hK1, hD1⟩ := hB
  rw [ht] at hP1
  obtain ⟨hP, hD⟩ := va_join (wr := ([(b1, .inr (1, [.ref b0, .ref bq, .ref bf, .int ld])), (b0, .inr (0, [.ref bw, .int v3, .int pl, .int cu])), (bw, .inl (cJ, 64, .inr (.inl v2))), (bq, .inl (cJ, 100, .inr (.inl li))), (bf, .inl (cJ, 89, .inr (.inl fb))), (bo, .inl (cJ, 1, .inr (.inl v4)))] : va_W)) (w1 := (wM cI cJ g0 gr gl gw gs v6 v7 v8 at_ ml md_l wd md sm fr no)) hP hD [5, 6, 7, 8, 9] [0, 1, 2, 3, 4, 10] rfl rfl (by decide) (by decide) hk1 hFc hP1 hD1
  replace hP := hP.sub (ws' := (wL cI cJ b1 b0 bw bq bf g0 gr gl gw gs bo v2 v3 pl cu li ld fb v6 v7 v8 at_ ml md_l wd md sm fr no v4)) [0, 1, 2, 3, 4, 6, 7, 8, 9, 10, 5] rfl
  replace hD := hD.sub (ws' := (wL cI cJ b1 b0 bw bq bf g0 gr gl gw gs bo v2 v3 pl cu li ld fb v6 v7 v8 at_ ml md_l wd md sm fr no v4)) [0, 1, 2, 3, 4, 6, 7, 8, 9, 10, 5] (by decide) rfl
  clear hk1 hP1 hK1 hD1 hvm hz1 hPc hDc hFc
  generalize H1 = H at hP hS ⊢
  refine W.widen (k := 11 + (kk + 1)) (n := 8761 + 6 * (kk + 1)) (by omega) (by omega) ?_
  have hP : va_P (dC, dI) vwCl (wL cI cJ b1 b0 bw bq bf g0 gr gl gw gs bo v2 v3 pl cu li ld fb v6 v7 v8 at_ ml md_l wd md sm fr no v4) H := hP
  have hD : va_D A (wL cI cJ b1 b0 bw bq bf g0 gr gl gw gs bo v2 v3 pl cu li ld fb v6 v7 v8 at_ ml md_l wd md sm fr no v4) := hD
  refine lv_istore (lv' := [(6, .int v5), (5, .int v1), (0, .ref b), (1, .ref b1), (2, .ref g0), (3, .ref bo), (4, .int (nI i))]) hx hb dL_law_493 hl (by decide) rfl (fun ls hl => ?_)
  refine lv_aload_n hx hb dL_law_495 rfl (lv_at hl 4 rfl) ?_
  obtain ⟨v9, hc, hj⟩ := ja_bd hj
  try dsimp only at hj
  have hPc := hP.sub (ws' := (wM cI cJ g0 gr gl gw gs v6 v7 v8 at_ ml md_l wd md sm fr no)) [5, 6, 7, 8, 9] rfl
  have hDc := hD.sub (ws' := (wM cI cJ g0 gr gl gw gs v6 v7 v8 at_ ml md_l wd md sm fr no)) [5, 6, 7, 8, 9] (by decide) rfl
  have hFc := va_free (wc := (wM cI cJ g0 gr gl gw gs v6 v7 v8 at_ ml md_l wd md sm fr no)) hD hS hA [5, 6, 7, 8, 9] rfl
  refine va_calli (va_runV (As := []) (rest := []) ⟨hx, hb, hml, hown, hts⟩ (c_X2_thrown l dC dI cI cJ g0 gr gl gw gs H.size v6 v7 v8 at_ ml md_l wd md sm fr no _ hc) (cwV 0 hts gL_law_X2_thrown rfl rfl rfl (by decide +kernel) ⟨Nat.le_of_ble_eq_true rfl, Nat.le_of_ble_eq_true rfl⟩) ⟨fun a U g mk q => ⟨q.1, jPr.blind q.2⟩, va_recv hK hPc (ci := 2) (q0 := 0) rfl rfl, fun U hU hW => ⟨rfl, jPr.mk hU hW hPc hK hDc⟩⟩ rfl rfl hl.1 rfl (lv_room (Nat.le_of_ble_eq_true rfl)) dL_law_496 ⟨by show _ ≤ 1043; omega, by show _ ≤ 17001; omega⟩) hS (fun q _ h => hFc q h) hFc (fun rr u t H1 locs ht hvm hw9 hB hz1 hk1 hS => ?_)
  have hw8 : v9 = rr := hw9.symm
  subst hw8
  obtain ⟨hP1, hK1, hD1⟩ := hB
  rw [ht] at hP1
  obtain ⟨hP, hD⟩ := va_join (wr := ([(b1, .inr (1, [.ref b0, .ref bq, .ref bf, .int ld])), (b0, .inr (0, [.ref bw, .int v3, .int pl, .int cu])), (bw, .inl (cJ, 64, .inr (.inl v2))), (bq, .inl (cJ, 100, .inr (.inl li))), (bf, .inl (cJ, 89, .inr (.inl fb))), (bo, .inl (cJ, 1, .inr (.inl v4)))] : va_W)) (w1 := (wM cI cJ g0 gr gl gw gs v6 v7 v8 at_ ml md_l wd md sm fr no)) hP hD [5, 6, 7, 8, 9] [0, 1, 2, 3, 4, 10] rfl rfl (by decide) (by decide) hk1 hFc hP1 hD1
  replace hP := hP.sub (ws' := (wL cI cJ b1 b0 bw bq bf g0 gr gl gw gs bo v2 v3 pl cu li ld fb v6 v7 v8 at_ ml md_l wd md sm fr no v4)) [0, 1, 2, 3, 4, 6, 7, 8, 9, 10, 5] rfl
  replace hD := hD.sub (ws' := (wL cI cJ b1 b0 bw bq bf g0 gr gl gw gs bo v2 v3 pl cu li ld fb v6 v7 v8 at_ ml md_l wd md sm fr no v4)) [0, 1, 2, 3, 4, 6, 7, 8, 9, 10, 5] (by decide) rfl
  clear hk1 hP1 hK1 hD1 hvm hz1 hPc hDc hFc
  generalize H1 = H at hP hS ⊢
  refine W.widen (k := 11 + (kk + 1)) (n := 8761 + 6 * (kk + 1)) (by omega) (by omega) ?_
  have hP : va_P (dC, dI) vwCl (wL cI cJ b1 b0 bw bq bf g0 gr gl gw gs bo v2 v3 pl cu li ld fb v6 v7 v8 at_ ml md_l wd md sm fr no v4) H := hP
  have hD : va_D A (wL cI cJ b1 b0 bw bq bf g0 gr gl gw gs bo v2 v3 pl cu li ld fb v6 v7 v8 at_ ml md_l wd md sm fr no v4) := hD
  refine lv_iload hx hb dL_law_499 (lv_at hl 1 rfl) ?_
  refine lv_icmp_eq (tgt := 506) hx hb dL_law_501 (by decide) (fun c10 => ?_) (fun c10 => ?_)
  · replace hj := ja_pos c10 hj
    refine lv_iload hx hb dL_law_506 (lv_at hl 1 rfl) ?_
    refine lv_if_ne (tgt := 523) hx hb dL_law_508 (by decide) (fun c11 => ?_) (fun c11 => ?_)
    · replace hj := ja_neg c11 hj
      refine lv_goto (tgt := 1465) hx hb dL_law_523 (by decide) ?_
      have hr9 : (v2, v3, pl, cu, li, ld, fb, v6, v7, v8, at_, ml, md_l, wd, md, sm, fr, no, v4) = r := Option.some.inj hj
      subst hr9
      exact hk H locs ls hP hD hS (lv_sub hl [2, 3, 4, 5, 6] rfl)
    · replace hj := ja_pos c11 hj
      refine lv_aload_n hx hb dL_law_511 rfl (lv_at hl 5 rfl) ?_
      refine lv_iconst (v := (0 : Int32)) hx hb dL_law_512 (by decide) ?_
      refine va_lald hx hb hK hP 10 1 rfl rfl (show vp_in (0 : Int32) 1 by unfold vp_in; decide) dL_law_513 ?_
      refine lv_iload hx hb dL_law_514 (lv_at hl 0 rfl) ?_
      refine lv_i2l hx hb dL_law_516 rfl ?_
      refine W.lcmp hx hb dL_law_517 ?_
      refine lv_if_eq (tgt := 523) hx hb dL_law_518 (by decide) (fun c12 => ?_) (fun c12 => ?_)
      · replace hj := ja_pos ((lg_cmp_eq (v4 (0 : Int32).toNatClampNeg) v5.toInt64).mp c12) hj
        refine lv_goto (tgt := 1465) hx hb dL_law_523 (by decide) ?_
        have hr9 : (v2, v3, pl, cu, li, ld, fb, v6, v7, v8, at_, ml, md_l, wd, md, sm, fr, no, v4) = r := Option.some.inj hj
        subst hr9
        exact hk H locs ls hP hD hS (lv_sub hl [2, 3, 4, 5, 6] rfl)
      · replace hj := ja_neg (fun h9 => c12 ((lg_cmp_eq (v4 (0 : Int32).toNatClampNeg) v5.toInt64).mpr h9)) hj
        refine lv_iconst (v := (0 : Int32)) hx hb dL_law_521 (by decide) ?_
        cases hj
  · replace hj := ja_neg c10 hj
    refine lv_iconst (v := (0 : Int32)) hx hb dL_law_504 (by decide) ?_
    cases hj
def jC_4 (w : Nat → Int64) (en : Int32) (pl : Int32) (cu : Int32) (li : Nat → Int64) (ld : Int32) (fb : Nat → Int64) (th : Int32) (rw : Nat → Int32) (mn : Int32) (at_ : Int32) (ml : Nat → Int64) (md_l : Int32) (wd : Nat → Int32) (md : Int32) (sm : Nat → Int64) (fr : Int32) (no : Int32) (ou : Nat → Int64) (v_1 v_2 v_3 v_4 : Int32) : Option (jSt9) :=
  (j_X1_bits w en v_1).bind fun v1 => ((j_X2_bits th rw mn v_1).bind fun (v2, v3) => (if v1 = v2 then (some (w, en, pl, cu, li, ld, fb, v3, rw, mn, at_, ml, md_l, wd, md, sm, fr, no, ou)) else (none)))
set_option maxHeartbeats 4000000 in
set_option maxRecDepth 100000 in
theorem sl_4 {p : Program} {l : Launch} {e : Env} {s : State} {m : MethodId} {below : List Frame} {meth : Method} {c : Code} {dC : Nat → ClassId} {dI : Nat → Nat → Nat} {cI cJ : ClassId} {b L : Nat} {xs : Nat → Int32} (hlt : l.stackTraces = false) (C0 : sl_Cx p s m meth c b L xs) (hK : va_K (dC, dI) vwCl (jTy cI cJ) s) (hN : jNs s) (hXs : jXs (fun q : Nat => s.heap.size ≤ q) s) (hL : L ≤ 2560) (b1 : Nat) (b0 : Nat) (bw : Nat) (bq : Nat) (bf : Nat) (g0 : Nat) (gr : Nat) (gl : Nat) (gw : Nat) (gs : Nat) (bo : Nat) (w : Nat → Int64) (en : Int32) (pl : Int32) (cu : Int32) (li : Nat → Int64) (ld : Int32) (fb : Nat → Int64) (th : Int32) (rw : Nat → Int32) (mn : Int32) (at_ : Int32) (ml : Nat → Int64) (md_l : Int32) (wd : Nat → Int32) (md : Int32) (sm : Nat → Int64) (fr : Int32) (no : Int32) (ou : Nat → Int64) (i kk : Nat) (hi : i + 5 ≤ L) (hkk : kk < 512) (r : jSt9) (hj : jC_4 w en pl cu li ld fb th rw mn at_ ml md_l wd md sm fr no ou (xs (i + 1)) (xs (i + 2)) (xs (i + 3)) (xs (i + 4)) = some r)
    (hk : ∀ (H : Heap) (locs : List Loc) (ls : Array Slot), va_P (dC, dI) vwCl (wL cI cJ b1 b0 bw bq bf g0 gr gl gw gs bo r.1 r.2.1 r.2.2.1 r.2.2.2.1 r.2.2.2.2.1 r.2.2.2.2.2.1 r.2.2.2.2.2.2.1 r.2.2.2.2.2.2.2.1 r.2.2.2.2.2.2.2.2.1 r.2.2.2.2.2.2.2.2.2.1 r.2.2.2.2.2.2.2.2.2.2.1 r.2.2.2.2.2.2.2.2.2.2.2.1 r.2.2.2.2.2.2.2.2.2.2.2.2.1 r.2.2.2.2.2.2.2.2.2.2.2.2.2.1 r.2.2.2.2.2.2.2.2.2.2.2.2.2.2.1 r.2.2.2.2.2.2.2.2.2.2.2.2.2.2.2.1 r.2.2.2.2.2.2.2.2.2.2.2.2.2.2.2.2.1 r.2.2.2.2.2.2.2.2.2.2.2.2.2.2.2.2.2.1 r.2.2.2.2.2.2.2.2.2.2.2.2.2.2.2.2.2.2) H → va_D (fun q : Nat => s.heap.size ≤ q) (wL cI cJ b1 b0 bw bq bf g0 gr gl gw gs bo r.1 r.2.1 r.2.2.1 r.2.2.2.1 r.2.2.2.2.1 r.2.2.2.2.2.1 r.2.2.2.2.2.2.1 r.2.2.2.2.2.2.2.1 r.2.2.2.2.2.2.2.2.1 r.2.2.2.2.2.2.2.2.2.1 r.2.2.2.2.2.2.2.2.2.2.1 r.2.2.2.2.2.2.2.2.2.2.2.1 r.2.2.2.2.2.2.2.2.2.2.2.2.1 r.2.2.2.2.2.2.2.2.2.2.2.2.2.1 r.2.2.2.2.2.2.2.2.2.2.2.2.2.2.1 r.2.2.2.2.2.2.2.2.2.2.2.2.2.2.2.1 r.2.2.2.2.2.2.2.2.2.2.2.2.2.2.2.2.1 r.2.2.2.2.2.2.2.2.2.2.2.2.2.2.2.2.2.1 r.2.2.2.2.2.2.2.2.2.2.2.2.2.2.2.2.2.2) → va_S (fun q : Nat => s.heap.size ≤ q) s.heap H locs → lv_has ls 8 [(0, .ref b), (1, .ref b1), (2, .ref g0), (3, .ref bo), (4, .int (nI i))] → W p l e room_1 s m #[Value.ref b] below meth c H locs (11 + (kk + 1)) (8761 + 6 * (kk + 1)) (lw_Z below #[Value.ref b] s) (F0 m 1465 ls [])) :
    ∀ (H : Heap) (locs : List Loc) (ls : Array Slot), va_P (dC, dI) vwCl (wL cI cJ b1 b0 bw bq bf g0 gr gl gw gs bo w en pl cu li ld fb th rw mn at_ ml md_l wd md sm fr no ou) H → va_D (fun q : Nat => s.heap.size ≤ q) (wL cI cJ b1 b0 bw bq bf g0 gr gl gw gs bo w en pl cu li ld fb th rw mn at_ ml md_l wd md sm fr no ou) → va_S (fun q : Nat => s.heap.size ≤ q) s.heap H locs → lv_has ls 8 [(0, .ref b), (1, .ref b1), (2, .ref g0), (3, .ref bo), (4, .int (nI i))] → W p l e room_1 s m #[Value.ref b] below meth c H locs (11 + kk) (8761 + 6 * kk) (lw_Z below #[Value.ref b] s) (F0 m 526 ls []) := by
  obtain ⟨hx, hb, hr, hml, hown, hts, hX, hbl, hlocks⟩ := id C0
  have hA : ∀ q : Nat, s.heap.size ≤ q → (fun q : Nat => s.heap.size ≤ q) q := fun _ h => h
  have hbA : ¬ (fun q : Nat => s.heap.size ≤ q) b := Nat.not_le.mpr hbl
  intro H locs ls hP hD hS hl
  generalize hAe : (fun q : Nat => s.heap.size ≤ q) = A at hA hbA hXs hD hS hk ⊢
  clear hAe
  unfold jC_4 at hj
  refine W.widen (k := 11 + (kk + 1)) (n := 8761 + 6 * (kk + 1)) (by omega) (by omega) ?_
  refine lv_aload_n hx hb dL_law_526 rfl (lv_at hl 1 rfl) ?_
  refine lv_aload_n hx hb dL_law_527 rfl (lv_at hl 0 rfl) ?_
  refine lv_iload hx hb dL_law_528 (lv_at hl 4 rfl) ?_
  refine lv_iconst (v := (1 : Int32)) hx hb dL_law_530 (by decide) ?_
  refine lv_iadd hx hb dL_law_531 ?_
  refine sl_ld hx hb hX hbl hbA hS (j := i + 1) (by omega) hL (nI_add i 1) dL_law_532 ?_
  obtain ⟨v1, hc, hj⟩ := ja_bd hj
  try dsimp only at hj
  have hPc := hP.sub (ws' := (wC cJ b1 b0 bw bq bf w en pl cu li ld fb)) [0, 1, 2, 3, 4] rfl
  have hDc := hD.sub (ws' := (wC cJ b1 b0 bw bq bf w en pl cu li ld fb)) [0, 1, 2, 3, 4] (by decide) rfl
  have hFc := va_free (wc := (wC cJ b1 b0 bw bq bf w en pl cu li ld fb)) hD hS hA [0, 1, 2, 3, 4] rfl
  refine va_calll (va_runV (As := [.int (xs (i + 1))]) (rest := []) ⟨hx, hb, hml, hown, hts⟩ (c_X1_bits l dC dI cI cJ b1 b0 bw bq bf H.size w en pl cu li ld fb (xs (i + 1)) _ hc) (cwV 1 hts gL_law_X1_bits rfl rfl rfl (by decide +kernel) ⟨Nat.le_of_ble_eq_true rfl, Nat.le_of_ble_eq_true rfl⟩) ⟨fun a U g mk q => ⟨q.1, jPr.blind q.2.1, jNs.blind q.2.2⟩, va_recv hK hPc (ci := 1) (q0 := 0) rfl rfl, fun U hU hW => ⟨rfl, jPr.mk hU hW hPc hK hDc, jNs.warm hW hN⟩⟩ rfl rfl hl.1 rfl (lv_room (Nat.le_of_ble_eq_true rfl)) dL_law_533 ⟨by show _ ≤ 1043; omega, by show _ ≤ 17001; omega⟩) hS (fun q _ h => hFc q h) hFc (fun rr u t H1 locs ht hvm hw9 hB hz1 hk1 hS => ?_)
  have hw8 : v1 = rr := hw9.symm
  subst hw8
  obtain ⟨hP1, hK1, hD1⟩ := hB
  rw [ht] at hP1
  obtain ⟨hP, hD⟩ := va_join (wr := ([(g0, .inr (2, [.int th, .ref gr, .int mn, .int at_, .ref gl, .int md_l, .ref gw, .int md, .ref gs, .int fr, .int no])), (gr, .inl (cI, 4096, .inl rw)), (gl, .inl (cJ, 100, .inr (.inl ml))), (gw, .inl (cI, 4200, .inl wd)), (gs, .inl (cJ, 92, .inr (.inl sm))), (bo, .inl (cJ, 1, .inr (.inl ou)))] : va_W)) (w1 := (wC cJ b1 b0 bw bq bf w en pl cu li ld fb)) hP hD [0, 1, 2, 3, 4] [5, 6, 7, 8, 9, 10] rfl rfl (by decide) (by decide) hk1 hFc hP1 hD1
  replace hP := hP.sub (ws' := (wL cI cJ b1 b0 bw bq bf g0 gr gl gw gs bo w en pl cu li ld fb th rw mn at_ ml md_l wd md sm fr no ou)) [6, 7, 8, 9, 10, 0, 1, 2, 3, 4, 5] rfl
  replace hD := hD.sub (ws' := (wL cI cJ b1 b0 bw bq bf g0 gr gl gw gs bo w en pl cu li ld fb th rw mn at_ ml md_l wd md sm fr no ou)) [6, 7, 8, 9, 10, 0, 1, 2, 3, 4, 5] (by decide) rfl
  clear hk1 hP1 hK1 hD1 hvm hz1 hPc hDc hFc
  generalize H1 = H at hP hS ⊢
  refine W.widen (k := 11 + (kk + 1)) (n := 8761 + 6 * (kk + 1)) (by omega) (by omega) ?_
  have hP : va_P (dC, dI) vwCl (wL cI cJ b1 b0 bw bq bf g0 gr gl gw gs bo w en pl cu li ld fb th rw mn at_ ml md_l wd md sm fr no ou) H := hP
  have hD : va_D A (wL cI cJ b1 b0 bw bq bf g0 gr gl gw gs bo w en pl cu li ld fb th rw mn at_ ml md_l wd md sm fr no ou) := hD
  refine lv_aload_n hx hb dL_law_536 rfl (lv_at hl 2 rfl) ?_
  refine lv_aload_n hx hb dL_law_537 rfl (lv_at hl 0 rfl) ?_
  refine lv_iload hx hb dL_law_538 (lv_at hl 4 rfl) ?_
  refine lv_iconst (v := (1 : Int32)) hx hb dL_law_540 (by decide) ?_
  refine lv_iadd hx hb dL_law_541 ?_
  refine sl_ld hx hb hX hbl hbA hS (j := i + 1) (by omega) hL (nI_add i 1) dL_law_542 ?_
  obtain ⟨⟨v2, v3⟩, hc, hj⟩ := ja_bd hj
  try dsimp only at hj
  have hPc := hP.sub (ws' := (wM cI cJ g0 gr gl gw gs th rw mn at_ ml md_l wd md sm fr no)) [5, 6, 7, 8, 9] rfl
  have hDc := hD.sub (ws' := (wM cI cJ g0 gr gl gw gs th rw mn at_ ml md_l wd md sm fr no)) [5, 6, 7, 8, 9] (by decide) rfl
  have hFc := va_free (wc := (wM cI cJ g0 gr gl gw gs th rw mn at_ ml md_l wd md sm fr no)) hD hS hA [5, 6, 7, 8, 9] rfl
  refine va_calll (va_runV (As := [.int (xs (i + 1))]) (rest := [.long v1]) ⟨hx, hb, hml, hown, hts⟩ (c_X2_bits l dC dI cI cJ g0 gr gl gw gs H.size th rw mn at_ ml md_l wd md sm fr no (xs (i + 1)) _ hc) (cwV 1 hts gL_law_X2_bits rfl rfl rfl (by decide +kernel) ⟨Nat.le_of_ble_eq_true rfl, Nat.le_of_ble_eq_true rfl⟩) ⟨fun a U g mk q => ⟨q.1, jPr.blind q.2⟩, va_recv hK hPc (ci := 2) (q0 := 0) rfl rfl, fun U hU hW => ⟨rfl, jPr.mk hU hW hPc hK hDc⟩⟩ rfl rfl hl.1 rfl (lv_room (Nat.le_of_ble_eq_true rfl)) dL_law_543 ⟨by show _ ≤ 1043; omega, by show _ ≤ 17001; omega⟩) hS (fun q _ h => hFc q h) hFc (fun rr u t H1 locs ht hvm hw9 hB hz1 hk1 hS => ?_)
  have hw8 : v2 = rr := hw9.symm
  subst hw8
  obtain ⟨hP1, hK1, hD1⟩ := hB
  rw [ht] at hP1
  obtain ⟨hP, hD⟩ := va_join (wr := ([(b1, .inr (1, [.ref b0, .ref bq, .ref bf, .int ld])), (b0, .inr (0, [.ref bw, .int en, .int pl, .int cu])), (bw, .inl (cJ, 64, .inr (.inl w))), (bq, .inl (cJ, 100, .inr (.inl li))), (bf, .inl (cJ, 89, .inr (.inl fb))), (bo, .inl (cJ, 1, .inr (.inl ou)))] : va_W)) (w1 := (wM cI cJ g0 gr gl gw gs v3 rw mn at_ ml md_l wd md sm fr no)) hP hD [5, 6, 7, 8, 9] [0, 1, 2, 3, 4, 10] rfl rfl (by decide) (by decide) hk1 hFc hP1 hD1
  replace hP := hP.sub (ws' := (wL cI cJ b1 b0 bw bq bf g0 gr gl gw gs bo w en pl cu li ld fb v3 rw mn at_ ml md_l wd md sm fr no ou)) [0, 1, 2, 3, 4, 6, 7, 8, 9, 10, 5] rfl
  replace hD := hD.sub (ws' := (wL cI cJ b1 b0 bw bq bf g0 gr gl gw gs bo w en pl cu li ld fb v3 rw mn at_ ml md_l wd md sm fr no ou)) [0, 1, 2, 3, 4, 6, 7, 8, 9, 10, 5] (by decide) rfl
  clear hk1 hP1 hK1 hD1 hvm hz1 hPc hDc hFc
  generalize H1 = H at hP hS ⊢
  refine W.widen (k := 11 + (kk + 1)) (n := 8761 + 6 * (kk + 1)) (by omega) (by omega) ?_
  have hP : va_P (dC, dI) vwCl (wL cI cJ b1 b0 bw bq bf g0 gr gl gw gs bo w en pl cu li ld fb v3 rw mn at_ ml md_l wd md sm fr no ou) H := hP
  have hD : va_D A (wL cI cJ b1 b0 bw bq bf g0 gr gl gw gs bo w en pl cu li ld fb v3 rw mn at_ ml md_l wd md sm fr no ou) := hD
  refine W.lcmp hx hb dL_law_546 ?_
  refine lv_if_eq (tgt := 1465) hx hb dL_law_547 (by decide) (fun c4 => ?_) (fun c4 => ?_)
  · replace hj := ja_pos ((lg_cmp_eq v1 v2).mp c4) hj
    have hr9 : (w, en, pl, cu, li, ld, fb, v3, rw, mn, at_, ml, md_l, wd, md, sm, fr, no, ou) = r := Option.some.inj hj
    subst hr9
    exact hk H locs ls hP hD hS (lv_sub hl [0, 1, 2, 3, 4] rfl)
  · replace hj := ja_neg (fun h9 => c4 ((lg_cmp_eq v1 v2).mpr h9)) hj
    refine lv_iconst (v := (0 : Int32)) hx hb dL_law_550 (by decide) ?_
    cases hj
def jC_5 (w : Nat → Int64) (en : Int32) (pl : Int32) (cu : Int32) (li : Nat → Int64) (ld : Int32) (fb : Nat → Int64) (th : Int32) (rw : Nat → Int32) (mn : Int32) (at_ : Int32) (ml : Nat → Int64) (md_l : Int32) (wd : Nat → Int32) (md : Int32) (sm : Nat → Int64) (fr : Int32) (no : Int32) (ou : Nat → Int64) (v_1 v_2 v_3 v_4 : Int32) : Option (jSt9) :=
  (j_X1_size en).bind fun v1 => ((j_X2_size th mn).bind fun (v2, v3) => (if v1 = v2 then (some (w, en, pl, cu, li, ld, fb, v3, rw, mn, at_, ml, md_l, wd, md, sm, fr, no, ou)) else (none)))
set_option maxHeartbeats 4000000 in
set_option maxRecDepth 100000 in
theorem sl_5 {p : Program} {l : Launch} {e : Env} {s : State} {m : MethodId} {below : List Frame} {meth : Method} {c : Code} {dC : Nat → ClassId} {dI : Nat → Nat → Nat} {cI cJ : ClassId} {b L : Nat} {xs : Nat → Int32} (hlt : l.stackTraces = false) (C0 : sl_Cx p s m meth c b L xs) (hK : va_K (dC, dI) vwCl (jTy cI cJ) s) (hN : jNs s) (hXs : jXs (fun q : Nat => s.heap.size ≤ q) s) (hL : L ≤ 2560) (b1 : Nat) (b0 : Nat) (bw : Nat) (bq : Nat) (bf : Nat) (g0 : Nat) (gr : Nat) (gl : Nat) (gw : Nat) (gs : Nat) (bo : Nat) (w : Nat → Int64) (en : Int32) (pl : Int32) (cu : Int32) (li : Nat → Int64) (ld : Int32) (fb : Nat → Int64) (th : Int32) (rw : Nat → Int32) (mn : Int32) (at_ : Int32) (ml : Nat → Int64) (md_l : Int32) (wd : Nat → Int32) (md : Int32) (sm : Nat → Int64) (fr : Int32) (no : Int32) (ou : Nat → Int64) (i kk : Nat) (hi : i + 5 ≤ L) (hkk : kk < 512) (r : jSt9) (hj : jC_5 w en pl cu li ld fb th rw mn at_ ml md_l wd md sm fr no ou (xs (i + 1)) (xs (i + 2)) (xs (i + 3)) (xs (i + 4)) = some r)
    (hk : ∀ (H : Heap) (locs : List Loc) (ls : Array Slot), va_P (dC, dI) vwCl (wL cI cJ b1 b0 bw bq bf g0 gr gl gw gs bo r.1 r.2.1 r.2.2.1 r.2.2.2.1 r.2.2.2.2.1 r.2.2.2.2.2.1 r.2.2.2.2.2.2.1 r.2.2.2.2.2.2.2.1 r.2.2.2.2.2.2.2.2.1 r.2.2.2.2.2.2.2.2.2.1 r.2.2.2.2.2.2.2.2.2.2.1 r.2.2.2.2.2.2.2.2.2.2.2.1 r.2.2.2.2.2.2.2.2.2.2.2.2.1 r.2.2.2.2.2.2.2.2.2.2.2.2.2.1 r.2.2.2.2.2.2.2.2.2.2.2.2.2.2.1 r.2.2.2.2.2.2.2.2.2.2.2.2.2.2.2.1 r.2.2.2.2.2.2.2.2.2.2.2.2.2.2.2.2.1 r.2.2.2.2.2.2.2.2.2.2.2.2.2.2.2.2.2.1 r.2.2.2.2.2.2.2.2.2.2.2.2.2.2.2.2.2.2) H → va_D (fun q : Nat => s.heap.size ≤ q) (wL cI cJ b1 b0 bw bq bf g0 gr gl gw gs bo r.1 r.2.1 r.2.2.1 r.2.2.2.1 r.2.2.2.2.1 r.2.2.2.2.2.1 r.2.2.2.2.2.2.1 r.2.2.2.2.2.2.2.1 r.2.2.2.2.2.2.2.2.1 r.2.2.2.2.2.2.2.2.2.1 r.2.2.2.2.2.2.2.2.2.2.1 r.2.2.2.2.2.2.2.2.2.2.2.1 r.2.2.2.2.2.2.2.2.2.2.2.2.1 r.2.2.2.2.2.2.2.2.2.2.2.2.2.1 r.2.2.2.2.2.2.2.2.2.2.2.2.2.2.1 r.2.2.2.2.2.2.2.2.2.2.2.2.2.2.2.1 r.2.2.2.2.2.2.2.2.2.2.2.2.2.2.2.2.1 r.2.2.2.2.2.2.2.2.2.2.2.2.2.2.2.2.2.1 r.2.2.2.2.2.2.2.2.2.2.2.2.2.2.2.2.2.2) → va_S (fun q : Nat => s.heap.size ≤ q) s.heap H locs → lv_has ls 8 [(0, .ref b), (1, .ref b1), (2, .ref g0), (3, .ref bo), (4, .int (nI i))] → W p l e room_1 s m #[Value.ref b] below meth c H locs (11 + (kk + 1)) (8761 + 6 * (kk + 1)) (lw_Z below #[Value.ref b] s) (F0 m 1465 ls [])) :
    ∀ (H : Heap) (locs : List Loc) (ls : Array Slot), va_P (dC, dI) vwCl (wL cI cJ b1 b0 bw bq bf g0 gr gl gw gs bo w en pl cu li ld fb th rw mn at_ ml md_l wd md sm fr no ou) H → va_D (fun q : Nat => s.heap.size ≤ q) (wL cI cJ b1 b0 bw bq bf g0 gr gl gw gs bo w en pl cu li ld fb th rw mn at_ ml md_l wd md sm fr no ou) → va_S (fun q : Nat => s.heap.size ≤ q) s.heap H locs → lv_has ls 8 [(0, .ref b), (1, .ref b1), (2, .ref g0), (3, .ref bo), (4, .int (nI i))] → W p l e room_1 s m #[Value.ref b] below meth c H locs (11 + kk) (8761 + 6 * kk) (lw_Z below #[Value.ref b] s) (F0 m 552 ls []) := by
  obtain ⟨hx, hb, hr, hml, hown, hts, hX, hbl, hlocks⟩ := id C0
  have hA : ∀ q : Nat, s.heap.size ≤ q → (fun q : Nat => s.heap.size ≤ q) q := fun _ h => h
  have hbA : ¬ (fun q : Nat => s.heap.size ≤ q) b := Nat.not_le.mpr hbl
  intro H locs ls hP hD hS hl
  generalize hAe : (fun q : Nat => s.heap.size ≤ q) = A at hA hbA hXs hD hS hk ⊢
  clear hAe
  unfold jC_5 at hj
  refine W.widen (k := 11 + (kk + 1)) (n := 8761 + 6 * (kk + 1)) (by omega) (by omega) ?_
  refine lv_aload_n hx hb dL_law_552 rfl (lv_at hl 1 rfl) ?_
  obtain ⟨v1, hc, hj⟩ := ja_bd hj
  try dsimp only at hj
  have hPc := hP.sub (ws' := (wC cJ b1 b0 bw bq bf w en pl cu li ld fb)) [0, 1, 2, 3, 4] rfl
  have hDc := hD.sub (ws' := (wC cJ b1 b0 bw bq bf w en pl cu li ld fb)) [0, 1, 2, 3, 4] (by decide) rfl
  have hFc := va_free (wc := (wC cJ b1 b0 bw bq bf w en pl cu li ld fb)) hD hS hA [0, 1, 2, 3, 4] rfl
  refine va_calli (va_runV (As := []) (rest := []) ⟨hx, hb, hml, hown, hts⟩ (c_X1_size l dC dI cI cJ b1 b0 bw bq bf H.size w en pl cu li ld fb _ hc) (cwV 0 hts gL_law_X1_size rfl rfl rfl (by decide +kernel) ⟨Nat.le_of_ble_eq_true rfl, Nat.le_of_ble_eq_true rfl⟩) ⟨fun a U g mk q => ⟨q.1, jPr.blind q.2.1, jNs.blind q.2.2⟩, va_recv hK hPc (ci := 1) (q0 := 0) rfl rfl, fun U hU hW => ⟨rfl, jPr.mk hU hW hPc hK hDc, jNs.warm hW hN⟩⟩ rfl rfl hl.1 rfl (lv_room (Nat.le_of_ble_eq_true rfl)) dL_law_553 ⟨by show _ ≤ 1043; omega, by show _ ≤ 17001; omega⟩) hS (fun q _ h => hFc q h) hFc (fun rr u t H1 locs ht hvm hw9 hB hz1 hk1 hS => ?_)
  have hw8 : v1 = rr := hw9.symm
  subst hw8
  obtain ⟨hP1, hK1, hD1⟩ := hB
  rw [ht] at hP1
  obtain ⟨hP, hD⟩ := va_join (wr := ([(g0, .inr (2, [.int th, .ref gr, .int mn, .int at_, .ref gl, .int md_l, .ref gw, .int md, .ref gs, .int fr, .int no])), (gr, .inl (cI, 4096, .inl rw)), (gl, .inl (cJ, 100, .inr (.inl ml))), (gw, .inl (cI, 4200, .inl wd)), (gs, .inl (cJ, 92, .inr (.inl sm))), (bo, .inl (cJ, 1, .inr (.inl ou)))] : va_W)) (w1 := (wC cJ b1 b0 bw bq bf w en pl cu li ld fb)) hP hD [0, 1, 2, 3, 4] [5, 6, 7, 8, 9, 10] rfl rfl (by decide) (by decide) hk1 hFc hP1 hD1
  replace hP := hP.sub (ws' := (wL cI cJ b1 b0 bw bq bf g0 gr gl gw gs bo w en pl cu li ld fb th rw mn at_ ml md_l wd md sm fr no ou)) [6, 7, 8, 9, 10, 0, 1, 2, 3, 4, 5] rfl
  replace hD := hD.sub (ws' := (wL cI cJ b1 b0 bw bq bf g0 gr gl gw gs bo w en pl cu li ld fb th rw mn at_ ml md_l wd md sm fr no ou)) [6, 7, 8, 9, 10, 0, 1, 2, 3, 4, 5] (by decide) rfl
  clear hk1 hP1 hK1 hD1 hvm hz1 hPc hDc hFc
  generalize H1 = H at hP hS ⊢
  refine W.widen (k := 11 + (kk + 1)) (n := 8761 + 6 * (kk + 1)) (by omega) (by omega) ?_
  have hP : va_P (dC, dI) vwCl (wL cI cJ b1 b0 bw bq bf g0 gr gl gw gs bo w en pl cu li ld fb th rw mn at_ ml md_l wd md sm fr no ou) H := hP
  have hD : va_D A (wL cI cJ b1 b0 bw bq bf g0 gr gl gw gs bo w en pl cu li ld fb th rw mn at_ ml md_l wd md sm fr no ou) := hD
  refine lv_aload_n hx hb dL_law_556 rfl (lv_at hl 2 rfl) ?_
  obtain ⟨⟨v2, v3⟩, hc, hj⟩ := ja_bd hj
  try dsimp only at hj
  have hPc := hP.sub (ws' := (wM cI cJ g0 gr gl gw gs th rw mn at_ ml md_l wd md sm fr no)) [5, 6, 7, 8, 9] rfl
  have hDc := hD.sub (ws' := (wM cI cJ g0 gr gl gw gs th rw mn at_ ml md_l wd md sm fr no)) [5, 6, 7, 8, 9] (by decide) rfl
  have hFc := va_free (wc := (wM cI cJ g0 gr gl gw gs th rw mn at_ ml md_l wd md sm fr no)) hD hS hA [5, 6, 7, 8, 9] rfl
  refine va_calli (va_runV (As := []) (rest := [.int v1]) ⟨hx, hb, hml, hown, hts⟩ (c_X2_size l dC dI cI cJ g0 gr gl gw gs H.size th rw mn at_ ml md_l wd md sm fr no _ hc) (cwV 0 hts gL_law_X2_size rfl rfl rfl (by decide +kernel) ⟨Nat.le_of_ble_eq_true rfl, Nat.le_of_ble_eq_true rfl⟩) ⟨fun a U g mk q => ⟨q.1, jPr.blind q.2⟩, va_recv hK hPc (ci := 2) (q0 := 0) rfl rfl, fun U hU hW => ⟨rfl, jPr.mk hU hW hPc hK hDc⟩⟩ rfl rfl hl.1 rfl (lv_room (Nat.le_of_ble_eq_true rfl)) dL_law_557 ⟨by show _ ≤ 1043; omega, by show _ ≤ 17001; omega⟩) hS (fun q _ h => hFc q h) hFc (fun rr u t H1 locs ht hvm hw9 hB hz1 hk1 hS => ?_)
  have hw8 : v2 = rr := hw9.symm
  subst hw8
  obtain ⟨hP1, hK1, hD1⟩ := hB
  rw [ht] at hP1
  obtain ⟨hP, hD⟩ := va_join (wr := ([(b1, .inr (1, [.ref b0, .ref bq, .ref bf, .int ld])), (b0, .inr (0, [.ref bw, .int en, .int pl, .int cu])), (bw, .inl (cJ, 64, .inr (.inl w))), (bq, .inl (cJ, 100, .inr (.inl li))), (bf, .inl (cJ, 89, .inr (.inl fb))), (bo, .inl (cJ, 1, .inr (.inl ou)))] : va_W)) (w1 := (wM cI cJ g0 gr gl gw gs v3 rw mn at_ ml md_l wd md sm fr no)) hP hD [5, 6, 7, 8, 9] [0, 1, 2, 3, 4, 10] rfl rfl (by decide) (by decide) hk1 hFc hP1 hD1
  replace hP := hP.sub (ws' := (wL cI cJ b1 b0 bw bq bf g0 gr gl gw gs bo w en pl cu li ld fb v3 rw mn at_ ml md_l wd md sm fr no ou)) [0, 1, 2, 3, 4, 6, 7, 8, 9, 10, 5] rfl
  replace hD := hD.sub (ws' := (wL cI cJ b1 b0 bw bq bf g0 gr gl gw gs bo w en pl cu li ld fb v3 rw mn at_ ml md_l wd md sm fr no ou)) [0, 1, 2, 3, 4, 6, 7, 8, 9, 10, 5] (by decide) rfl
  clear hk1 hP1 hK1 hD1 hvm hz1 hPc hDc hFc
  generalize H1 = H at hP hS ⊢
  refine W.widen (k := 11 + (kk + 1)) (n := 8761 + 6 * (kk + 1)) (by omega) (by omega) ?_
  have hP : va_P (dC, dI) vwCl (wL cI cJ b1 b0 bw bq bf g0 gr gl gw gs bo w en pl cu li ld fb v3 rw mn at_ ml md_l wd md sm fr no ou) H := hP
  have hD : va_D A (wL cI cJ b1 b0 bw bq bf g0 gr gl gw gs bo w en pl cu li ld fb v3 rw mn at_ ml md_l wd md sm fr no ou) := hD
  refine lv_icmp_eq (tgt := 1465) hx hb dL_law_560 (by decide) (fun c4 => ?_) (fun c4 => ?_)
  · replace hj := ja_pos c4 hj
    have hr9 : (w, en, pl, cu, li, ld, fb, v3, rw, mn, at_, ml, md_l, wd, md, sm, fr, no, ou) = r := Option.some.inj hj
    subst hr9
    exact hk H locs ls hP hD hS (lv_sub hl [0, 1, 2, 3, 4] rfl)
  · replace hj := ja_neg c4 hj
    refine lv_iconst (v := (0 : Int32)) hx hb dL_law_563 (by decide) ?_
    cases hj
def jC_6 (w : Nat → Int64) (en : Int32) (pl : Int32) (cu : Int32) (li : Nat → Int64) (ld : Int32) (fb : Nat → Int64) (th : Int32) (rw : Nat → Int32) (mn : Int32) (at_ : Int32) (ml : Nat → Int64) (md_l : Int32) (wd : Nat → Int32) (md : Int32) (sm : Nat → Int64) (fr : Int32) (no : Int32) (ou : Nat → Int64) (v_1 v_2 v_3 v_4 : Int32) : Option (jSt9) :=
  (j_X1_place pl).bind fun v1 => ((j_X2_place th at_).bind fun (v2, v3) => (if v1 = v2 then (some (w, en, pl, cu, li, ld, fb, v3, rw, mn, at_, ml, md_l, wd, md, sm, fr, no, ou)) else (none)))
set_option maxHeartbeats 4000000 in
set_option maxRecDepth 100000 in
theorem sl_6 {p : Program} {l : Launch} {e : Env} {s : State} {m : MethodId} {below : List Frame} {meth : Method} {c : Code} {dC : Nat → ClassId} {dI : Nat → Nat → Nat} {cI cJ : ClassId} {b L : Nat} {xs : Nat → Int32} (hlt : l.stackTraces = false) (C0 : sl_Cx p s m meth c b L xs) (hK : va_K (dC, dI) vwCl (jTy cI cJ) s) (hN : jNs s) (hXs : jXs (fun q : Nat => s.heap.size ≤ q) s) (hL : L ≤ 2560) (b1 : Nat) (b0 : Nat) (bw : Nat) (bq : Nat) (bf : Nat) (g0 : Nat) (gr : Nat) (gl : Nat) (gw : Nat) (gs : Nat) (bo : Nat) (w : Nat → Int64) (en : Int32) (pl : Int32) (cu : Int32) (li : Nat → Int64) (ld : Int32) (fb : Nat → Int64) (th : Int32) (rw : Nat → Int32) (mn : Int32) (at_ : Int32) (ml : Nat → Int64) (md_l : Int32) (wd : Nat → Int32) (md : Int32) (sm : Nat → Int64) (fr : Int32) (no : Int32) (ou : Nat → Int64) (i kk : Nat) (hi : i + 5 ≤ L) (hkk : kk < 512) (r : jSt9) (hj : jC_6 w en pl cu li ld fb th rw mn at_ ml md_l wd md sm fr no ou (xs (i + 1)) (xs (i + 2)) (xs (i + 3)) (xs (i + 4)) = some r)
    (hk : ∀ (H : Heap) (locs : List Loc) (ls : Array Slot), va_P (dC, dI) vwCl (wL cI cJ b1 b0 bw bq bf g0 gr gl gw gs bo r.1 r.2.1 r.2.2.1 r.2.2.2.1 r.2.2.2.2.1 r.2.2.2.2.2.1 r.2.2.2.2.2.2.1 r.2.2.2.2.2.2.2.1 r.2.2.2.2.2.2.2.2.1 r.2.2.2.2.2.2.2.2.2.1 r.2.2.2.2.2.2.2.2.2.2.1 r.2.2.2.2.2.2.2.2.2.2.2.1 r.2.2.2.2.2.2.2.2.2.2.2.2.1 r.2.2.2.2.2.2.2.2.2.2.2.2.2.1 r.2.2.2.2.2.2.2.2.2.2.2.2.2.2.1 r.2.2.2.2.2.2.2.2.2.2.2.2.2.2.2.1 r.2.2.2.2.2.2.2.2.2.2.2.2.2.2.2.2.1 r.2.2.2.2.2.2.2.2.2.2.2.2.2.2.2.2.2.1 r.2.2.2.2.2.2.2.2.2.2.2.2.2.2.2.2.2.2) H → va_D (fun q : Nat => s.heap.size ≤ q) (wL cI cJ b1 b0 bw bq bf g0 gr gl gw gs bo r.1 r.2.1 r.2.2.1 r.2.2.2.1 r.2.2.2.2.1 r.2.2.2.2.2.1 r.2.2.2.2.2.2.1 r.2.2.2.2.2.2.2.1 r.2.2.2.2.2.2.2.2.1 r.2.2.2.2.2.2.2.2.2.1 r.2.2.2.2.2.2.2.2.2.2.1 r.2.2.2.2.2.2.2.2.2.2.2.1 r.2.2.2.2.2.2.2.2.2.2.2.2.1 r.2.2.2.2.2.2.2.2.2.2.2.2.2.1 r.2.2.2.2.2.2.2.2.2.2.2.2.2.2.1 r.2.2.2.2.2.2.2.2.2.2.2.2.2.2.2.1 r.2.2.2.2.2.2.2.2.2.2.2.2.2.2.2.2.1 r.2.2.2.2.2.2.2.2.2.2.2.2.2.2.2.2.2.1 r.2.2.2.2.2.2.2.2.2.2.2.2.2.2.2.2.2.2) → va_S (fun q : Nat => s.heap.size ≤ q) s.heap H locs → lv_has ls 8 [(0, .ref b), (1, .ref b1), (2, .ref g0), (3, .ref bo), (4, .int (nI i))] → W p l e room_1 s m #[Value.ref b] below meth c H locs (11 + (kk + 1)) (8761 + 6 * (kk + 1)) (lw_Z below #[Value.ref b] s) (F0 m 1465 ls [])) :
    ∀ (H : Heap) (locs : List Loc) (ls : Array Slot), va_P (dC, dI) vwCl (wL cI cJ b1 b0 bw bq bf g0 gr gl gw gs bo w en pl cu li ld fb th rw mn at_ ml md_l wd md sm fr no ou) H → va_D (fun q : Nat => s.heap.size ≤ q) (wL cI cJ b1 b0 bw bq bf g0 gr gl gw gs bo w en pl cu li ld fb th rw mn at_ ml md_l wd md sm fr no ou) → va_S (fun q : Nat => s.heap.size ≤ q) s.heap H locs → lv_has ls 8 [(0, .ref b), (1, .ref b1), (2, .ref g0), (3, .ref bo), (4, .int (nI i))] → W p l e room_1 s m #[Value.ref b] below meth c H locs (11 + kk) (8761 + 6 * kk) (lw_Z below #[Value.ref b] s) (F0 m 565 ls []) := by
  obtain ⟨hx, hb, hr, hml, hown, hts, hX, hbl, hlocks⟩ := id C0
  have hA : ∀ q : Nat, s.heap.size ≤ q → (fun q : Nat => s.heap.size ≤ q) q := fun _ h => h
  have hbA : ¬ (fun q : Nat => s.heap.size ≤ q) b := Nat.not_le.mpr hbl
  intro H locs ls hP hD hS hl
  generalize hAe : (fun q : Nat => s.heap.size ≤ q) = A at hA hbA hXs hD hS hk ⊢
  clear hAe
  unfold jC_6 at hj
  refine W.widen (k := 11 + (kk + 1)) (n := 8761 + 6 * (kk + 1)) (by omega) (by omega) ?_
  refine lv_aload_n hx hb dL_law_565 rfl (lv_at hl 1 rfl) ?_
  obtain ⟨v1, hc, hj⟩ := ja_bd hj
  try dsimp only at hj
  have hPc := hP.sub (ws' := (wC cJ b1 b0 bw bq bf w en pl cu li ld fb)) [0, 1, 2, 3, 4] rfl
  have hDc := hD.sub (ws' := (wC cJ b1 b0 bw bq bf w en pl cu li ld fb)) [0, 1, 2, 3, 4] (by decide) rfl
  have hFc := va_free (wc := (wC cJ b1 b0 bw bq bf w en pl cu li ld fb)) hD hS hA [0, 1, 2, 3, 4] rfl
  refine va_calli (va_runV (As := []) (rest := []) ⟨hx, hb, hml, hown, hts⟩ (c_X1_place l dC dI cI cJ b1 b0 bw bq bf H.size w en pl cu li ld fb _ hc) (cwV 0 hts gL_law_X1_place rfl rfl rfl (by decide +kernel) ⟨Nat.le_of_ble_eq_true rfl, Nat.le_of_ble_eq_true rfl⟩) ⟨fun a U g mk q => ⟨q.1, jPr.blind q.2.1, jNs.blind q.2.2⟩, va_recv hK hPc (ci := 1) (q0 := 0) rfl rfl, fun U hU hW => ⟨rfl, jPr.mk hU hW hPc hK hDc, jNs.warm hW hN⟩⟩ rfl rfl hl.1 rfl (lv_room (Nat.le_of_ble_eq_true rfl)) dL_law_566 ⟨by show _ ≤ 1043; omega, by show _ ≤ 17001; omega⟩) hS (fun q _ h => hFc q h) hFc (fun rr u t H1 locs ht hvm hw9 hB hz1 hk1 hS => ?_)
  have hw8 : v1 = rr := hw9.symm
  subst hw8
  obtain ⟨hP1, hK1, hD1⟩ := hB
  rw [ht] at hP1
  obtain ⟨hP, hD⟩ := va_join (wr := ([(g0, .inr (2, [.int th, .ref gr, .int mn, .int at_, .ref gl, .int md_l, .ref gw, .int md, .ref gs, .int fr, .int no])), (gr, .inl (cI, 4096, .inl rw)), (gl, .inl (cJ, 100, .inr (.inl ml))), (gw, .inl (cI, 4200, .inl wd)), (gs, .inl (cJ, 92, .inr (.inl sm))), (bo, .inl (cJ, 1, .inr (.inl ou)))] : va_W)) (w1 := (wC cJ b1 b0 bw bq bf w en pl cu li ld fb)) hP hD [0, 1, 2, 3, 4] [5, 6, 7, 8, 9, 10] rfl rfl (by decide) (by decide) hk1 hFc hP1 hD1
  replace hP := hP.sub (ws' := (wL cI cJ b1 b0 bw bq bf g0 gr gl gw gs bo w en pl cu li ld fb th rw mn at_ ml md_l wd md sm fr no ou)) [6, 7, 8, 9, 10, 0, 1, 2, 3, 4, 5] rfl
  replace hD := hD.sub (ws' := (wL cI cJ b1 b0 bw bq bf g0 gr gl gw gs bo w en pl cu li ld fb th rw mn at_ ml md_l wd md sm fr no ou)) [6, 7, 8, 9, 10, 0, 1, 2, 3, 4, 5] (by decide) rfl
  clear hk1 hP1 hK1 hD1 hvm hz1 hPc hDc hFc
  generalize H1 = H at hP hS ⊢
  refine W.widen (k := 11 + (kk + 1)) (n := 8761 + 6 * (kk + 1)) (by omega) (by omega) ?_
  have hP : va_P (dC, dI) vwCl (wL cI cJ b1 b0 bw bq bf g0 gr gl gw gs bo w en pl cu li ld fb th rw mn at_ ml md_l wd md sm fr no ou) H := hP
  have hD : va_D A (wL cI cJ b1 b0 bw bq bf g0 gr gl gw gs bo w en pl cu li ld fb th rw mn at_ ml md_l wd md sm fr no ou) := hD
  refine lv_aload_n hx hb dL_law_569 rfl (lv_at hl 2 rfl) ?_
  obtain ⟨⟨v2, v3⟩, hc, hj⟩ := ja_bd hj
  try dsimp only at hj
  have hPc := hP.sub (ws' := (wM cI cJ g0 gr gl gw gs th rw mn at_ ml md_l wd md sm fr no)) [5, 6, 7, 8, 9] rfl
  have hDc := hD.sub (ws' := (wM cI cJ g0 gr gl gw gs th rw mn at_ ml md_l wd md sm fr no)) [5, 6, 7, 8, 9] (by decide) rfl
  have hFc := va_free (wc := (wM cI cJ g0 gr gl gw gs th rw mn at_ ml md_l wd md sm fr no)) hD hS hA [5, 6, 7, 8, 9] rfl
  refine va_calli (va_runV (As := []) (rest := [.int v1]) ⟨hx, hb, hml, hown, hts⟩ (c_X2_place l dC dI cI cJ g0 gr gl gw gs H.size th rw mn at_ ml md_l wd md sm fr no _ hc) (cwV 0 hts gL_law_X2_place rfl rfl rfl (by decide +kernel) ⟨Nat.le_of_ble_eq_true rfl, Nat.le_of_ble_eq_true rfl⟩) ⟨fun a U g mk q => ⟨q.1, jPr.blind q.2⟩, va_recv hK hPc (ci := 2) (q0 := 0) rfl rfl, fun U hU hW => ⟨rfl, jPr.mk hU hW hPc hK hDc⟩⟩ rfl rfl hl.1 rfl (lv_room (Nat.le_of_ble_eq_true rfl)) dL_law_570 ⟨by show _ ≤ 1043; omega, by show _ ≤ 17001; omega⟩) hS (fun q _ h => hFc q h) hFc (fun rr u t H1 locs ht hvm hw9 hB hz1 hk1 hS => ?_)
  have hw8 : v2 = rr := hw9.symm
  subst hw8
  obtain ⟨hP1, hK1, hD1⟩ := hB
  rw [ht] at hP1
  obtain ⟨hP, hD⟩ := va_join (wr := ([(b1, .inr (1, [.ref b0, .ref bq, .ref bf, .int ld])), (b0, .inr (0, [.ref bw, .int en, .int pl, .int cu])), (bw, .inl (cJ, 64, .inr (.inl w))), (bq, .inl (cJ, 100, .inr (.inl li))), (bf, .inl (cJ, 89, .inr (.inl fb))), (bo, .inl (cJ, 1, .inr (.inl ou)))] : va_W)) (w1 := (wM cI cJ g0 gr gl gw gs v3 rw mn at_ ml md_l wd md sm fr no)) hP hD [5, 6, 7, 8, 9] [0, 1, 2, 3, 4, 10] rfl rfl (by decide) (by decide) hk1 hFc hP1 hD1
  replace hP := hP.sub (ws' := (wL cI cJ b1 b0 bw bq bf g0 gr gl gw gs bo w en pl cu li ld fb v3 rw mn at_ ml md_l wd md sm fr no ou)) [0, 1, 2, 3, 4, 6, 7, 8, 9, 10, 5] rfl
  replace hD := hD.sub (ws' := (wL cI cJ b1 b0 bw bq bf g0 gr gl gw gs bo w en pl cu li ld fb v3 rw mn at_ ml md_l wd md sm fr no ou)) [0, 1, 2, 3, 4, 6, 7, 8, 9, 10, 5] (by decide) rfl
  clear hk1 hP1 hK1 hD1 hvm hz1 hPc hDc hFc
  generalize H1 = H at hP hS ⊢
  refine W.widen (k := 11 + (kk + 1)) (n := 8761 + 6 * (kk + 1)) (by omega) (by omega) ?_
  have hP : va_P (dC, dI) vwCl (wL cI cJ b1 b0 bw bq bf g0 gr gl gw gs bo w en pl cu li ld fb v3 rw mn at_ ml md_l wd md sm fr no ou) H := hP
  have hD : va_D A (wL cI cJ b1 b0 bw bq bf g0 gr gl gw gs bo w en pl cu li ld fb v3 rw mn at_ ml md_l wd md sm fr no ou) := hD
  refine lv_icmp_eq (tgt := 1465) hx hb dL_law_573 (by decide) (fun c4 => ?_) (fun c4 => ?_)
  · replace hj := ja_pos c4 hj
    have hr9 : (w, en, pl, cu, li, ld, fb, v3, rw, mn, at_, ml, md_l, wd, md, sm, fr, no, ou) = r := Option.some.inj hj
    subst hr9
    exact hk H locs ls hP hD hS (lv_sub hl [0, 1, 2, 3, 4] rfl)
  · replace hj := ja_neg c4 hj
    refine lv_iconst (v := (0 : Int32)) hx hb dL_law_576 (by decide) ?_
    cases hj
